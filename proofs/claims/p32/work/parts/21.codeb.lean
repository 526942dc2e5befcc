/-! codes: by program (wip/p32/gen/gencode.py) -/
/-! Linkcourt$Board.<init>()V -/
noncomputable def tb_X1_init : List (Nat × mm_I) := [(0, mm_ldR 1 0), (1, mm_obj 4), (4, mm_ldR 5 0), (5, mm_k 7 (.int 36)), (7, mm_nwa 9 0), (9, mm_pfR 12 1 0), (12, mm_ldR 13 0), (13, mm_k 15 (.int 36)), (15, mm_nwa 17 0), (17, mm_pfR 20 1 1), (20, mm_ldR 21 0), (21, mm_k 24 (.int 216)), (24, mm_nwa 26 0), (26, mm_pfR 29 1 2), (29, mm_ldR 30 0), (30, mm_k 32 (.int 36)), (32, mm_nwa 34 1), (34, mm_pfR 37 1 3), (37, mm_ldR 38 0), (38, mm_k 39 (.int 4)), (39, mm_nwa 41 1), (41, mm_pfR 44 1 4), (44, mm_rtV)]
noncomputable def f_X1_init : mm_F := mm_do (mm_pr tb_X1_init) 1
theorem mn_X1_init : mm_alln tb_X1_init := ⟨mm_n_ldR _ _, mm_n_obj _, mm_n_ldR _ _, mm_n_k _ _, mm_n_nwa _ _, mm_n_pfR _ _ _, mm_n_ldR _ _, mm_n_k _ _, mm_n_nwa _ _, mm_n_pfR _ _ _, mm_n_ldR _ _, mm_n_k _ _, mm_n_nwa _ _, mm_n_pfR _ _ _, mm_n_ldR _ _, mm_n_k _ _, mm_n_nwa _ _, mm_n_pfR _ _ _, mm_n_ldR _ _, mm_n_k _ _, mm_n_nwa _ _, mm_n_pfR _ _ _, mm_n_rtV, trivial⟩
theorem mo_X1_init : mm_Mo f_X1_init := mm_do_mo (mm_alln_mem mn_X1_init)
set_option maxRecDepth 10000 in
theorem ok_X1_init {l : Launch} (hl : l.stackTraces = false) : mm_Ok l yX1_init cX1_init 1 none 1 20 tb_X1_init := by
  refine ⟨mm_alln_mem mn_X1_init, fun p e cells slots s m args below meth c D tc A S ad Tg X hret hname htab hth => mm_allr_mem ?_⟩
  exact ⟨mm_r_aload_n X (show decode cX1_init 0 = .ok (.aload_n 0, 1) by decide +kernel) rfl,
    mm_r_obj X (show decode cX1_init 1 = .ok (.invokespecial 3, 3) by decide +kernel) mw_78 mw_71 mw_72 (Nat.le_of_ble_eq_true rfl) (Nat.le_of_ble_eq_true rfl),
    mm_r_aload_n X (show decode cX1_init 4 = .ok (.aload_n 0, 1) by decide +kernel) rfl,
    mm_r_bipush X (show decode cX1_init 5 = .ok (.bipush 36, 2) by decide +kernel) rfl,
    mm_r_nwa X (t := 0) (Nat.le_of_ble_eq_true rfl) rfl (show decode cX1_init 7 = .ok (.newarray .int, 2) by decide +kernel) mw_122,
    mm_r_pfR X (ci := 1) (p := 0) (show mm_kd 1 0 = 2 by decide +kernel) (Or.inl ⟨_, rfl⟩) hname rfl rfl (Nat.le_of_ble_eq_true rfl) (show decode cX1_init 9 = .ok (.putfield 9, 3) by decide +kernel) mw_79 rfl rfl,
    mm_r_aload_n X (show decode cX1_init 12 = .ok (.aload_n 0, 1) by decide +kernel) rfl,
    mm_r_bipush X (show decode cX1_init 13 = .ok (.bipush 36, 2) by decide +kernel) rfl,
    mm_r_nwa X (t := 0) (Nat.le_of_ble_eq_true rfl) rfl (show decode cX1_init 15 = .ok (.newarray .int, 2) by decide +kernel) mw_122,
    mm_r_pfR X (ci := 1) (p := 1) (show mm_kd 1 1 = 2 by decide +kernel) (Or.inl ⟨_, rfl⟩) hname rfl rfl (Nat.le_of_ble_eq_true rfl) (show decode cX1_init 17 = .ok (.putfield 15, 3) by decide +kernel) mw_80 rfl rfl,
    mm_r_aload_n X (show decode cX1_init 20 = .ok (.aload_n 0, 1) by decide +kernel) rfl,
    mm_r_sipush X (show decode cX1_init 21 = .ok (.sipush 216, 3) by decide +kernel) rfl,
    mm_r_nwa X (t := 0) (Nat.le_of_ble_eq_true rfl) rfl (show decode cX1_init 24 = .ok (.newarray .int, 2) by decide +kernel) mw_122,
    mm_r_pfR X (ci := 1) (p := 2) (show mm_kd 1 2 = 2 by decide +kernel) (Or.inl ⟨_, rfl⟩) hname rfl rfl (Nat.le_of_ble_eq_true rfl) (show decode cX1_init 26 = .ok (.putfield 18, 3) by decide +kernel) mw_81 rfl rfl,
    mm_r_aload_n X (show decode cX1_init 29 = .ok (.aload_n 0, 1) by decide +kernel) rfl,
    mm_r_bipush X (show decode cX1_init 30 = .ok (.bipush 36, 2) by decide +kernel) rfl,
    mm_r_nwa X (t := 1) (Nat.le_of_ble_eq_true rfl) rfl (show decode cX1_init 32 = .ok (.newarray .long, 2) by decide +kernel) mw_123,
    mm_r_pfR X (ci := 1) (p := 3) (show mm_kd 1 3 = 2 by decide +kernel) (Or.inl ⟨_, rfl⟩) hname rfl rfl (Nat.le_of_ble_eq_true rfl) (show decode cX1_init 34 = .ok (.putfield 21, 3) by decide +kernel) mw_82 rfl rfl,
    mm_r_aload_n X (show decode cX1_init 37 = .ok (.aload_n 0, 1) by decide +kernel) rfl,
    mm_r_iconst X (show decode cX1_init 38 = .ok (.iconst 4, 1) by decide +kernel) rfl,
    mm_r_nwa X (t := 1) (Nat.le_of_ble_eq_true rfl) rfl (show decode cX1_init 39 = .ok (.newarray .long, 2) by decide +kernel) mw_123,
    mm_r_pfR X (ci := 1) (p := 4) (show mm_kd 1 4 = 2 by decide +kernel) (Or.inl ⟨_, rfl⟩) hname rfl rfl (Nat.le_of_ble_eq_true rfl) (show decode cX1_init 41 = .ok (.putfield 25, 3) by decide +kernel) mw_83 rfl rfl,
    mm_r_vret X hret (show decode cX1_init 44 = .ok (.return_, 1) by decide +kernel), trivial⟩
theorem sn_X1_init {l : Launch} (hl : l.stackTraces = false) : mm_Snd l yX1_init (.code yX1_init cX1_init 1 none) 1 20 f_X1_init := mm_met hl (plainFor_of_name (by decide +kernel)) (ok_X1_init hl)
/-! Linkcourt$Board.numberCells()V -/
noncomputable def tb_X1_numberCells : List (Nat × mm_I) := [(0, mm_k 1 (.int 0)), (1, mm_stI 2 1), (2, mm_k 3 (.int 0)), (3, mm_stI 4 2), (4, mm_ldI 5 2), (5, mm_ldR 6 0), (6, mm_gfI 9 1 5), (9, mm_ge2 76 12), (12, mm_ldR 13 0), (13, mm_gfI 16 1 7), (16, mm_k 17 (.int 1)), (17, mm_ne2 26 20), (20, mm_ldI 21 2), (21, mm_k 22 (.int 1)), (22, mm_i2 23 (fun a b => a + b)), (23, mm_go 30), (26, mm_ldR 27 0), (27, mm_gfI 30 1 6), (30, mm_stI 31 3), (31, mm_k 32 (.int 0)), (32, mm_stI 34 4), (34, mm_ldI 36 4), (36, mm_ldI 37 3), (37, mm_ge2 70 40), (40, mm_ldI 41 1), (41, mm_k 43 (.int 36)), (43, mm_ge2 70 46), (46, mm_ldR 47 0), (47, mm_gfR 50 1 0), (50, mm_ldI 51 1), (51, mm_ldI 52 2), (52, mm_ast 53 0 (fun v => v)), (53, mm_ldR 54 0), (54, mm_gfR 57 1 1), (57, mm_ldI 58 1), (58, mm_ldI 60 4), (60, mm_ast 61 0 (fun v => v)), (61, mm_inc 64 1 1), (64, mm_inc 67 4 1), (67, mm_go 34), (70, mm_inc 73 2 1), (73, mm_go 4), (76, mm_ldR 77 0), (77, mm_ldI 78 1), (78, mm_pfI 81 1 8), (81, mm_rtV)]
noncomputable def f_X1_numberCells : mm_F := mm_do (mm_pr tb_X1_numberCells) 5
theorem mn_X1_numberCells : mm_alln tb_X1_numberCells := ⟨mm_n_k _ _, mm_n_stI _ _, mm_n_k _ _, mm_n_stI _ _, mm_n_ldI _ _, mm_n_ldR _ _, mm_n_gfI _ _ _, mm_n_ge2 _ _, mm_n_ldR _ _, mm_n_gfI _ _ _, mm_n_k _ _, mm_n_ne2 _ _, mm_n_ldI _ _, mm_n_k _ _, mm_n_i2 _ _, mm_n_go _, mm_n_ldR _ _, mm_n_gfI _ _ _, mm_n_stI _ _, mm_n_k _ _, mm_n_stI _ _, mm_n_ldI _ _, mm_n_ldI _ _, mm_n_ge2 _ _, mm_n_ldI _ _, mm_n_k _ _, mm_n_ge2 _ _, mm_n_ldR _ _, mm_n_gfR _ _ _, mm_n_ldI _ _, mm_n_ldI _ _, mm_n_ast _ _ _, mm_n_ldR _ _, mm_n_gfR _ _ _, mm_n_ldI _ _, mm_n_ldI _ _, mm_n_ast _ _ _, mm_n_inc _ _ _, mm_n_inc _ _ _, mm_n_go _, mm_n_inc _ _ _, mm_n_go _, mm_n_ldR _ _, mm_n_ldI _ _, mm_n_pfI _ _ _, mm_n_rtV, trivial⟩
theorem mo_X1_numberCells : mm_Mo f_X1_numberCells := mm_do_mo (mm_alln_mem mn_X1_numberCells)
set_option maxRecDepth 10000 in
theorem ok_X1_numberCells {l : Launch} (hl : l.stackTraces = false) : mm_Ok l yX1_numberCells cX1_numberCells 5 none 1 20 tb_X1_numberCells := by
  refine ⟨mm_alln_mem mn_X1_numberCells, fun p e cells slots s m args below meth c D tc A S ad Tg X hret hname htab hth => mm_allr_mem ?_⟩
  exact ⟨mm_r_iconst X (show decode cX1_numberCells 0 = .ok (.iconst 0, 1) by decide +kernel) rfl,
    mm_r_istore_n X (show decode cX1_numberCells 1 = .ok (.istore_n 1, 1) by decide +kernel) rfl (Nat.le_of_ble_eq_true rfl),
    mm_r_iconst X (show decode cX1_numberCells 2 = .ok (.iconst 0, 1) by decide +kernel) rfl,
    mm_r_istore_n X (show decode cX1_numberCells 3 = .ok (.istore_n 2, 1) by decide +kernel) rfl (Nat.le_of_ble_eq_true rfl),
    mm_r_iload_n X (show decode cX1_numberCells 4 = .ok (.iload_n 2, 1) by decide +kernel) rfl,
    mm_r_aload_n X (show decode cX1_numberCells 5 = .ok (.aload_n 0, 1) by decide +kernel) rfl,
    mm_r_gfI X (ci := 1) (p := 5) (show mm_kd 1 5 = 0 by decide +kernel) rfl (Nat.le_of_ble_eq_true rfl) (show decode cX1_numberCells 6 = .ok (.getfield 32, 3) by decide +kernel) mw_84 rfl,
    mm_r_ge2 X (show decode cX1_numberCells 9 = .ok (.if_icmp .ge 67, 3) by decide +kernel) (by decide),
    mm_r_aload_n X (show decode cX1_numberCells 12 = .ok (.aload_n 0, 1) by decide +kernel) rfl,
    mm_r_gfI X (ci := 1) (p := 7) (show mm_kd 1 7 = 0 by decide +kernel) rfl (Nat.le_of_ble_eq_true rfl) (show decode cX1_numberCells 13 = .ok (.getfield 28, 3) by decide +kernel) mw_86 rfl,
    mm_r_iconst X (show decode cX1_numberCells 16 = .ok (.iconst 1, 1) by decide +kernel) rfl,
    mm_r_ne2 X (show decode cX1_numberCells 17 = .ok (.if_icmp .ne 9, 3) by decide +kernel) (by decide),
    mm_r_iload_n X (show decode cX1_numberCells 20 = .ok (.iload_n 2, 1) by decide +kernel) rfl,
    mm_r_iconst X (show decode cX1_numberCells 21 = .ok (.iconst 1, 1) by decide +kernel) rfl,
    mm_r_iadd X (show decode cX1_numberCells 22 = .ok (.iadd, 1) by decide +kernel),
    mm_r_goto X (show decode cX1_numberCells 23 = .ok (.goto 7, 3) by decide +kernel) (by decide),
    mm_r_aload_n X (show decode cX1_numberCells 26 = .ok (.aload_n 0, 1) by decide +kernel) rfl,
    mm_r_gfI X (ci := 1) (p := 6) (show mm_kd 1 6 = 0 by decide +kernel) rfl (Nat.le_of_ble_eq_true rfl) (show decode cX1_numberCells 27 = .ok (.getfield 35, 3) by decide +kernel) mw_85 rfl,
    mm_r_istore_n X (show decode cX1_numberCells 30 = .ok (.istore_n 3, 1) by decide +kernel) rfl (Nat.le_of_ble_eq_true rfl),
    mm_r_iconst X (show decode cX1_numberCells 31 = .ok (.iconst 0, 1) by decide +kernel) rfl,
    mm_r_istore X (show decode cX1_numberCells 32 = .ok (.istore 4, 2) by decide +kernel) (Nat.le_of_ble_eq_true rfl),
    mm_r_iload X (show decode cX1_numberCells 34 = .ok (.iload 4, 2) by decide +kernel),
    mm_r_iload_n X (show decode cX1_numberCells 36 = .ok (.iload_n 3, 1) by decide +kernel) rfl,
    mm_r_ge2 X (show decode cX1_numberCells 37 = .ok (.if_icmp .ge 33, 3) by decide +kernel) (by decide),
    mm_r_iload_n X (show decode cX1_numberCells 40 = .ok (.iload_n 1, 1) by decide +kernel) rfl,
    mm_r_bipush X (show decode cX1_numberCells 41 = .ok (.bipush 36, 2) by decide +kernel) rfl,
    mm_r_ge2 X (show decode cX1_numberCells 43 = .ok (.if_icmp .ge 27, 3) by decide +kernel) (by decide),
    mm_r_aload_n X (show decode cX1_numberCells 46 = .ok (.aload_n 0, 1) by decide +kernel) rfl,
    mm_r_gfR X (ci := 1) (p := 0) (show mm_kd 1 0 = 2 by decide +kernel) rfl (Nat.le_of_ble_eq_true rfl) (show decode cX1_numberCells 47 = .ok (.getfield 9, 3) by decide +kernel) mw_79 rfl,
    mm_r_iload_n X (show decode cX1_numberCells 50 = .ok (.iload_n 1, 1) by decide +kernel) rfl,
    mm_r_iload_n X (show decode cX1_numberCells 51 = .ok (.iload_n 2, 1) by decide +kernel) rfl,
    mm_r_iast X (show decode cX1_numberCells 52 = .ok (.iastore, 1) by decide +kernel),
    mm_r_aload_n X (show decode cX1_numberCells 53 = .ok (.aload_n 0, 1) by decide +kernel) rfl,
    mm_r_gfR X (ci := 1) (p := 1) (show mm_kd 1 1 = 2 by decide +kernel) rfl (Nat.le_of_ble_eq_true rfl) (show decode cX1_numberCells 54 = .ok (.getfield 15, 3) by decide +kernel) mw_80 rfl,
    mm_r_iload_n X (show decode cX1_numberCells 57 = .ok (.iload_n 1, 1) by decide +kernel) rfl,
    mm_r_iload X (show decode cX1_numberCells 58 = .ok (.iload 4, 2) by decide +kernel),
    mm_r_iast X (show decode cX1_numberCells 60 = .ok (.iastore, 1) by decide +kernel),
    mm_r_iinc X (show decode cX1_numberCells 61 = .ok (.iinc 1 1, 3) by decide +kernel) rfl (Nat.le_of_ble_eq_true rfl),
    mm_r_iinc X (show decode cX1_numberCells 64 = .ok (.iinc 4 1, 3) by decide +kernel) rfl (Nat.le_of_ble_eq_true rfl),
    mm_r_goto X (show decode cX1_numberCells 67 = .ok (.goto (-33), 3) by decide +kernel) (by decide),
    mm_r_iinc X (show decode cX1_numberCells 70 = .ok (.iinc 2 1, 3) by decide +kernel) rfl (Nat.le_of_ble_eq_true rfl),
    mm_r_goto X (show decode cX1_numberCells 73 = .ok (.goto (-69), 3) by decide +kernel) (by decide),
    mm_r_aload_n X (show decode cX1_numberCells 76 = .ok (.aload_n 0, 1) by decide +kernel) rfl,
    mm_r_iload_n X (show decode cX1_numberCells 77 = .ok (.iload_n 1, 1) by decide +kernel) rfl,
    mm_r_pfI X (ci := 1) (p := 8) (show mm_kd 1 8 = 0 by decide +kernel) rfl rfl (Nat.le_of_ble_eq_true rfl) (show decode cX1_numberCells 78 = .ok (.putfield 44, 3) by decide +kernel) mw_89 rfl rfl,
    mm_r_vret X hret (show decode cX1_numberCells 81 = .ok (.return_, 1) by decide +kernel), trivial⟩
theorem sn_X1_numberCells {l : Launch} (hl : l.stackTraces = false) : mm_Snd l yX1_numberCells (.code yX1_numberCells cX1_numberCells 5 none) 1 20 f_X1_numberCells := mm_met hl (plainFor_of_name (by decide +kernel)) (ok_X1_numberCells hl)
/-! Linkcourt$Board.at(II)I -/
noncomputable def tb_X1_at : List (Nat × mm_I) := [(0, mm_ldI 1 1), (1, mm_lt1 12 4), (4, mm_ldI 5 1), (5, mm_ldR 6 0), (6, mm_gfI 9 1 5), (9, mm_lt2 14 12), (12, mm_k 13 (.int (-1))), (13, mm_rtI), (14, mm_ldR 15 0), (15, mm_gfI 18 1 7), (18, mm_k 19 (.int 1)), (19, mm_ne2 45 22), (22, mm_ldI 23 2), (23, mm_lt1 31 26), (26, mm_ldI 27 2), (27, mm_ldI 28 1), (28, mm_le2 35 31), (31, mm_k 32 (.int (-1))), (32, mm_go 44), (35, mm_ldI 36 1), (36, mm_ldI 37 1), (37, mm_k 38 (.int 1)), (38, mm_i2 39 (fun a b => a + b)), (39, mm_i2 40 (fun a b => a * b)), (40, mm_k 41 (.int 2)), (41, mm_i3 42 (fun a b => a / b)), (42, mm_ldI 43 2), (43, mm_i2 44 (fun a b => a + b)), (44, mm_rtI), (45, mm_ldR 46 0), (46, mm_gfI 49 1 7), (49, mm_k 50 (.int 2)), (50, mm_ne2 87 53), (53, mm_ldI 54 1), (54, mm_ldR 55 0), (55, mm_gfI 58 1 6), (58, mm_i2 59 (fun a b => a * b)), (59, mm_ldI 60 2), (60, mm_ge1 72 63), (63, mm_ldR 64 0), (64, mm_gfI 67 1 6), (67, mm_k 68 (.int 1)), (68, mm_i2 69 (fun a b => a - b)), (69, mm_go 85), (72, mm_ldI 73 2), (73, mm_ldR 74 0), (74, mm_gfI 77 1 6), (77, mm_lt2 84 80), (80, mm_k 81 (.int 0)), (81, mm_go 85), (84, mm_ldI 85 2), (85, mm_i2 86 (fun a b => a + b)), (86, mm_rtI), (87, mm_ldI 88 2), (88, mm_lt1 99 91), (91, mm_ldI 92 2), (92, mm_ldR 93 0), (93, mm_gfI 96 1 6), (96, mm_lt2 103 99), (99, mm_k 100 (.int (-1))), (100, mm_go 111), (103, mm_ldI 104 1), (104, mm_ldR 105 0), (105, mm_gfI 108 1 6), (108, mm_i2 109 (fun a b => a * b)), (109, mm_ldI 110 2), (110, mm_i2 111 (fun a b => a + b)), (111, mm_rtI)]
noncomputable def f_X1_at : mm_F := mm_do (mm_pr tb_X1_at) 3
theorem mn_X1_at : mm_alln tb_X1_at := ⟨mm_n_ldI _ _, mm_n_lt1 _ _, mm_n_ldI _ _, mm_n_ldR _ _, mm_n_gfI _ _ _, mm_n_lt2 _ _, mm_n_k _ _, mm_n_rtI, mm_n_ldR _ _, mm_n_gfI _ _ _, mm_n_k _ _, mm_n_ne2 _ _, mm_n_ldI _ _, mm_n_lt1 _ _, mm_n_ldI _ _, mm_n_ldI _ _, mm_n_le2 _ _, mm_n_k _ _, mm_n_go _, mm_n_ldI _ _, mm_n_ldI _ _, mm_n_k _ _, mm_n_i2 _ _, mm_n_i2 _ _, mm_n_k _ _, mm_n_i3 _ _, mm_n_ldI _ _, mm_n_i2 _ _, mm_n_rtI, mm_n_ldR _ _, mm_n_gfI _ _ _, mm_n_k _ _, mm_n_ne2 _ _, mm_n_ldI _ _, mm_n_ldR _ _, mm_n_gfI _ _ _, mm_n_i2 _ _, mm_n_ldI _ _, mm_n_ge1 _ _, mm_n_ldR _ _, mm_n_gfI _ _ _, mm_n_k _ _, mm_n_i2 _ _, mm_n_go _, mm_n_ldI _ _, mm_n_ldR _ _, mm_n_gfI _ _ _, mm_n_lt2 _ _, mm_n_k _ _, mm_n_go _, mm_n_ldI _ _, mm_n_i2 _ _, mm_n_rtI, mm_n_ldI _ _, mm_n_lt1 _ _, mm_n_ldI _ _, mm_n_ldR _ _, mm_n_gfI _ _ _, mm_n_lt2 _ _, mm_n_k _ _, mm_n_go _, mm_n_ldI _ _, mm_n_ldR _ _, mm_n_gfI _ _ _, mm_n_i2 _ _, mm_n_ldI _ _, mm_n_i2 _ _, mm_n_rtI, trivial⟩
theorem mo_X1_at : mm_Mo f_X1_at := mm_do_mo (mm_alln_mem mn_X1_at)
set_option maxRecDepth 10000 in
theorem ok_X1_at {l : Launch} (hl : l.stackTraces = false) : mm_Ok l yX1_at cX1_at 3 (some .int) 1 20 tb_X1_at := by
  refine ⟨mm_alln_mem mn_X1_at, fun p e cells slots s m args below meth c D tc A S ad Tg X hret hname htab hth => mm_allr_mem ?_⟩
  exact ⟨mm_r_iload_n X (show decode cX1_at 0 = .ok (.iload_n 1, 1) by decide +kernel) rfl,
    mm_r_lt1 X (show decode cX1_at 1 = .ok (.ifCond .lt 11, 3) by decide +kernel) (by decide),
    mm_r_iload_n X (show decode cX1_at 4 = .ok (.iload_n 1, 1) by decide +kernel) rfl,
    mm_r_aload_n X (show decode cX1_at 5 = .ok (.aload_n 0, 1) by decide +kernel) rfl,
    mm_r_gfI X (ci := 1) (p := 5) (show mm_kd 1 5 = 0 by decide +kernel) rfl (Nat.le_of_ble_eq_true rfl) (show decode cX1_at 6 = .ok (.getfield 32, 3) by decide +kernel) mw_84 rfl,
    mm_r_lt2 X (show decode cX1_at 9 = .ok (.if_icmp .lt 5, 3) by decide +kernel) (by decide),
    mm_r_iconst X (show decode cX1_at 12 = .ok (.iconst (-1), 1) by decide +kernel) rfl,
    mm_r_iret X hret (show decode cX1_at 13 = .ok (.ireturn, 1) by decide +kernel),
    mm_r_aload_n X (show decode cX1_at 14 = .ok (.aload_n 0, 1) by decide +kernel) rfl,
    mm_r_gfI X (ci := 1) (p := 7) (show mm_kd 1 7 = 0 by decide +kernel) rfl (Nat.le_of_ble_eq_true rfl) (show decode cX1_at 15 = .ok (.getfield 28, 3) by decide +kernel) mw_86 rfl,
    mm_r_iconst X (show decode cX1_at 18 = .ok (.iconst 1, 1) by decide +kernel) rfl,
    mm_r_ne2 X (show decode cX1_at 19 = .ok (.if_icmp .ne 26, 3) by decide +kernel) (by decide),
    mm_r_iload_n X (show decode cX1_at 22 = .ok (.iload_n 2, 1) by decide +kernel) rfl,
    mm_r_lt1 X (show decode cX1_at 23 = .ok (.ifCond .lt 8, 3) by decide +kernel) (by decide),
    mm_r_iload_n X (show decode cX1_at 26 = .ok (.iload_n 2, 1) by decide +kernel) rfl,
    mm_r_iload_n X (show decode cX1_at 27 = .ok (.iload_n 1, 1) by decide +kernel) rfl,
    mm_r_le2 X (show decode cX1_at 28 = .ok (.if_icmp .le 7, 3) by decide +kernel) (by decide),
    mm_r_iconst X (show decode cX1_at 31 = .ok (.iconst (-1), 1) by decide +kernel) rfl,
    mm_r_goto X (show decode cX1_at 32 = .ok (.goto 12, 3) by decide +kernel) (by decide),
    mm_r_iload_n X (show decode cX1_at 35 = .ok (.iload_n 1, 1) by decide +kernel) rfl,
    mm_r_iload_n X (show decode cX1_at 36 = .ok (.iload_n 1, 1) by decide +kernel) rfl,
    mm_r_iconst X (show decode cX1_at 37 = .ok (.iconst 1, 1) by decide +kernel) rfl,
    mm_r_iadd X (show decode cX1_at 38 = .ok (.iadd, 1) by decide +kernel),
    mm_r_imul X (show decode cX1_at 39 = .ok (.imul, 1) by decide +kernel),
    mm_r_iconst X (show decode cX1_at 40 = .ok (.iconst 2, 1) by decide +kernel) rfl,
    mm_r_idiv X (show decode cX1_at 41 = .ok (.idiv, 1) by decide +kernel),
    mm_r_iload_n X (show decode cX1_at 42 = .ok (.iload_n 2, 1) by decide +kernel) rfl,
    mm_r_iadd X (show decode cX1_at 43 = .ok (.iadd, 1) by decide +kernel),
    mm_r_iret X hret (show decode cX1_at 44 = .ok (.ireturn, 1) by decide +kernel),
    mm_r_aload_n X (show decode cX1_at 45 = .ok (.aload_n 0, 1) by decide +kernel) rfl,
    mm_r_gfI X (ci := 1) (p := 7) (show mm_kd 1 7 = 0 by decide +kernel) rfl (Nat.le_of_ble_eq_true rfl) (show decode cX1_at 46 = .ok (.getfield 28, 3) by decide +kernel) mw_86 rfl,
    mm_r_iconst X (show decode cX1_at 49 = .ok (.iconst 2, 1) by decide +kernel) rfl,
    mm_r_ne2 X (show decode cX1_at 50 = .ok (.if_icmp .ne 37, 3) by decide +kernel) (by decide),
    mm_r_iload_n X (show decode cX1_at 53 = .ok (.iload_n 1, 1) by decide +kernel) rfl,
    mm_r_aload_n X (show decode cX1_at 54 = .ok (.aload_n 0, 1) by decide +kernel) rfl,
    mm_r_gfI X (ci := 1) (p := 6) (show mm_kd 1 6 = 0 by decide +kernel) rfl (Nat.le_of_ble_eq_true rfl) (show decode cX1_at 55 = .ok (.getfield 35, 3) by decide +kernel) mw_85 rfl,
    mm_r_imul X (show decode cX1_at 58 = .ok (.imul, 1) by decide +kernel),
    mm_r_iload_n X (show decode cX1_at 59 = .ok (.iload_n 2, 1) by decide +kernel) rfl,
    mm_r_ge1 X (show decode cX1_at 60 = .ok (.ifCond .ge 12, 3) by decide +kernel) (by decide),
    mm_r_aload_n X (show decode cX1_at 63 = .ok (.aload_n 0, 1) by decide +kernel) rfl,
    mm_r_gfI X (ci := 1) (p := 6) (show mm_kd 1 6 = 0 by decide +kernel) rfl (Nat.le_of_ble_eq_true rfl) (show decode cX1_at 64 = .ok (.getfield 35, 3) by decide +kernel) mw_85 rfl,
    mm_r_iconst X (show decode cX1_at 67 = .ok (.iconst 1, 1) by decide +kernel) rfl,
    mm_r_isub X (show decode cX1_at 68 = .ok (.isub, 1) by decide +kernel),
    mm_r_goto X (show decode cX1_at 69 = .ok (.goto 16, 3) by decide +kernel) (by decide),
    mm_r_iload_n X (show decode cX1_at 72 = .ok (.iload_n 2, 1) by decide +kernel) rfl,
    mm_r_aload_n X (show decode cX1_at 73 = .ok (.aload_n 0, 1) by decide +kernel) rfl,
    mm_r_gfI X (ci := 1) (p := 6) (show mm_kd 1 6 = 0 by decide +kernel) rfl (Nat.le_of_ble_eq_true rfl) (show decode cX1_at 74 = .ok (.getfield 35, 3) by decide +kernel) mw_85 rfl,
    mm_r_lt2 X (show decode cX1_at 77 = .ok (.if_icmp .lt 7, 3) by decide +kernel) (by decide),
    mm_r_iconst X (show decode cX1_at 80 = .ok (.iconst 0, 1) by decide +kernel) rfl,
    mm_r_goto X (show decode cX1_at 81 = .ok (.goto 4, 3) by decide +kernel) (by decide),
    mm_r_iload_n X (show decode cX1_at 84 = .ok (.iload_n 2, 1) by decide +kernel) rfl,
    mm_r_iadd X (show decode cX1_at 85 = .ok (.iadd, 1) by decide +kernel),
    mm_r_iret X hret (show decode cX1_at 86 = .ok (.ireturn, 1) by decide +kernel),
    mm_r_iload_n X (show decode cX1_at 87 = .ok (.iload_n 2, 1) by decide +kernel) rfl,
    mm_r_lt1 X (show decode cX1_at 88 = .ok (.ifCond .lt 11, 3) by decide +kernel) (by decide),
    mm_r_iload_n X (show decode cX1_at 91 = .ok (.iload_n 2, 1) by decide +kernel) rfl,
    mm_r_aload_n X (show decode cX1_at 92 = .ok (.aload_n 0, 1) by decide +kernel) rfl,
    mm_r_gfI X (ci := 1) (p := 6) (show mm_kd 1 6 = 0 by decide +kernel) rfl (Nat.le_of_ble_eq_true rfl) (show decode cX1_at 93 = .ok (.getfield 35, 3) by decide +kernel) mw_85 rfl,
    mm_r_lt2 X (show decode cX1_at 96 = .ok (.if_icmp .lt 7, 3) by decide +kernel) (by decide),
    mm_r_iconst X (show decode cX1_at 99 = .ok (.iconst (-1), 1) by decide +kernel) rfl,
    mm_r_goto X (show decode cX1_at 100 = .ok (.goto 11, 3) by decide +kernel) (by decide),
    mm_r_iload_n X (show decode cX1_at 103 = .ok (.iload_n 1, 1) by decide +kernel) rfl,
    mm_r_aload_n X (show decode cX1_at 104 = .ok (.aload_n 0, 1) by decide +kernel) rfl,
    mm_r_gfI X (ci := 1) (p := 6) (show mm_kd 1 6 = 0 by decide +kernel) rfl (Nat.le_of_ble_eq_true rfl) (show decode cX1_at 105 = .ok (.getfield 35, 3) by decide +kernel) mw_85 rfl,
    mm_r_imul X (show decode cX1_at 108 = .ok (.imul, 1) by decide +kernel),
    mm_r_iload_n X (show decode cX1_at 109 = .ok (.iload_n 2, 1) by decide +kernel) rfl,
    mm_r_iadd X (show decode cX1_at 110 = .ok (.iadd, 1) by decide +kernel),
    mm_r_iret X hret (show decode cX1_at 111 = .ok (.ireturn, 1) by decide +kernel), trivial⟩
theorem sn_X1_at {l : Launch} (hl : l.stackTraces = false) : mm_Snd l yX1_at (.code yX1_at cX1_at 3 (some .int)) 1 20 f_X1_at := mm_met hl (plainFor_of_name (by decide +kernel)) (ok_X1_at hl)
/-! Linkcourt$Board.meetNeighbours()V -/
noncomputable def tb_X1_meetNeighbours : List (Nat × mm_I) := [(0, mm_k 1 (.int 0)), (1, mm_stI 2 1), (2, mm_ldI 3 1), (3, mm_ldR 4 0), (4, mm_gfI 7 1 8), (7, mm_ge2 131 10), (10, mm_ldI 11 1), (11, mm_k 13 (.int 36)), (13, mm_ge2 131 16), (16, mm_k 17 (.long 0)), (17, mm_stJ 18 2), (18, mm_k 19 (.int 0)), (19, mm_stI 21 4), (21, mm_ldI 23 4), (23, mm_k 25 (.int 6)), (25, mm_ge2 118 28), (28, mm_ldR 29 0), (29, mm_gfI 32 1 7), (32, mm_k 33 (.int 1)), (33, mm_ne2 45 36), (36, mm_k 39 (.ref 1002)), (39, mm_ldI 41 4), (41, mm_aldS 42 2), (42, mm_go 51), (45, mm_k 48 (.ref 1001)), (48, mm_ldI 50 4), (50, mm_aldS 51 1), (51, mm_stI 53 5), (53, mm_ldR 54 0), (54, mm_ldR 55 0), (55, mm_gfR 58 1 0), (58, mm_ldI 59 1), (59, mm_ald 60 0), (60, mm_k 63 (.ref 1000)), (63, mm_ldI 65 4), (65, mm_aldS 66 0), (66, mm_i2 67 (fun a b => a + b)), (67, mm_ldR 68 0), (68, mm_gfR 71 1 1), (71, mm_ldI 72 1), (72, mm_ald 73 0), (73, mm_ldI 75 5), (75, mm_i2 76 (fun a b => a + b)), (76, mm_clV 79 1 2 f_X1_at), (79, mm_stI 81 6), (81, mm_ldR 82 0), (82, mm_gfR 85 1 2), (85, mm_ldI 86 1), (86, mm_k 88 (.int 6)), (88, mm_i2 89 (fun a b => a * b)), (89, mm_ldI 91 4), (91, mm_i2 92 (fun a b => a + b)), (92, mm_ldI 94 6), (94, mm_ast 95 0 (fun v => v)), (95, mm_ldJ 96 2), (96, mm_ldI 98 6), (98, mm_k 99 (.int (-1))), (99, mm_ne2 106 102), (102, mm_k 103 (.long 0)), (103, mm_go 110), (106, mm_k 107 (.long 1)), (107, mm_ldI 109 6), (109, mm_ls 110 (fun a b => a <<< (b.toInt64 &&& 63))), (110, mm_l2 111 (fun a b => a ||| b)), (111, mm_stJ 112 2), (112, mm_inc 115 4 1), (115, mm_go 21), (118, mm_ldR 119 0), (119, mm_gfR 122 1 3), (122, mm_ldI 123 1), (123, mm_ldJ 124 2), (124, mm_astJ 125), (125, mm_inc 128 1 1), (128, mm_go 2), (131, mm_rtV)]
noncomputable def f_X1_meetNeighbours : mm_F := mm_do (mm_pr tb_X1_meetNeighbours) 7
theorem mn_X1_meetNeighbours : mm_alln tb_X1_meetNeighbours := ⟨mm_n_k _ _, mm_n_stI _ _, mm_n_ldI _ _, mm_n_ldR _ _, mm_n_gfI _ _ _, mm_n_ge2 _ _, mm_n_ldI _ _, mm_n_k _ _, mm_n_ge2 _ _, mm_n_k _ _, mm_n_stJ _ _, mm_n_k _ _, mm_n_stI _ _, mm_n_ldI _ _, mm_n_k _ _, mm_n_ge2 _ _, mm_n_ldR _ _, mm_n_gfI _ _ _, mm_n_k _ _, mm_n_ne2 _ _, mm_n_k _ _, mm_n_ldI _ _, mm_n_aldS _ _, mm_n_go _, mm_n_k _ _, mm_n_ldI _ _, mm_n_aldS _ _, mm_n_stI _ _, mm_n_ldR _ _, mm_n_ldR _ _, mm_n_gfR _ _ _, mm_n_ldI _ _, mm_n_ald _ _, mm_n_k _ _, mm_n_ldI _ _, mm_n_aldS _ _, mm_n_i2 _ _, mm_n_ldR _ _, mm_n_gfR _ _ _, mm_n_ldI _ _, mm_n_ald _ _, mm_n_ldI _ _, mm_n_i2 _ _, mm_n_clV _ _ _ (mo_X1_at), mm_n_stI _ _, mm_n_ldR _ _, mm_n_gfR _ _ _, mm_n_ldI _ _, mm_n_k _ _, mm_n_i2 _ _, mm_n_ldI _ _, mm_n_i2 _ _, mm_n_ldI _ _, mm_n_ast _ _ _, mm_n_ldJ _ _, mm_n_ldI _ _, mm_n_k _ _, mm_n_ne2 _ _, mm_n_k _ _, mm_n_go _, mm_n_k _ _, mm_n_ldI _ _, mm_n_ls _ _, mm_n_l2 _ _, mm_n_stJ _ _, mm_n_inc _ _ _, mm_n_go _, mm_n_ldR _ _, mm_n_gfR _ _ _, mm_n_ldI _ _, mm_n_ldJ _ _, mm_n_astJ _, mm_n_inc _ _ _, mm_n_go _, mm_n_rtV, trivial⟩
theorem mo_X1_meetNeighbours : mm_Mo f_X1_meetNeighbours := mm_do_mo (mm_alln_mem mn_X1_meetNeighbours)
set_option maxRecDepth 10000 in
theorem ok_X1_meetNeighbours {l : Launch} (hl : l.stackTraces = false) : mm_Ok l yX1_meetNeighbours cX1_meetNeighbours 7 none 2 42 tb_X1_meetNeighbours := by
  refine ⟨mm_alln_mem mn_X1_meetNeighbours, fun p e cells slots s m args below meth c D tc A S ad Tg X hret hname htab hth => mm_allr_mem ?_⟩
  exact ⟨mm_r_iconst X (show decode cX1_meetNeighbours 0 = .ok (.iconst 0, 1) by decide +kernel) rfl,
    mm_r_istore_n X (show decode cX1_meetNeighbours 1 = .ok (.istore_n 1, 1) by decide +kernel) rfl (Nat.le_of_ble_eq_true rfl),
    mm_r_iload_n X (show decode cX1_meetNeighbours 2 = .ok (.iload_n 1, 1) by decide +kernel) rfl,
    mm_r_aload_n X (show decode cX1_meetNeighbours 3 = .ok (.aload_n 0, 1) by decide +kernel) rfl,
    mm_r_gfI X (ci := 1) (p := 8) (show mm_kd 1 8 = 0 by decide +kernel) rfl (Nat.le_of_ble_eq_true rfl) (show decode cX1_meetNeighbours 4 = .ok (.getfield 44, 3) by decide +kernel) mw_89 rfl,
    mm_r_ge2 X (show decode cX1_meetNeighbours 7 = .ok (.if_icmp .ge 124, 3) by decide +kernel) (by decide),
    mm_r_iload_n X (show decode cX1_meetNeighbours 10 = .ok (.iload_n 1, 1) by decide +kernel) rfl,
    mm_r_bipush X (show decode cX1_meetNeighbours 11 = .ok (.bipush 36, 2) by decide +kernel) rfl,
    mm_r_ge2 X (show decode cX1_meetNeighbours 13 = .ok (.if_icmp .ge 118, 3) by decide +kernel) (by decide),
    mm_r_lconst X (show decode cX1_meetNeighbours 16 = .ok (.lconst 0, 1) by decide +kernel) rfl,
    mm_r_lstore_n X (show decode cX1_meetNeighbours 17 = .ok (.lstore_n 2, 1) by decide +kernel) rfl (Nat.le_of_ble_eq_true rfl),
    mm_r_iconst X (show decode cX1_meetNeighbours 18 = .ok (.iconst 0, 1) by decide +kernel) rfl,
    mm_r_istore X (show decode cX1_meetNeighbours 19 = .ok (.istore 4, 2) by decide +kernel) (Nat.le_of_ble_eq_true rfl),
    mm_r_iload X (show decode cX1_meetNeighbours 21 = .ok (.iload 4, 2) by decide +kernel),
    mm_r_bipush X (show decode cX1_meetNeighbours 23 = .ok (.bipush 6, 2) by decide +kernel) rfl,
    mm_r_ge2 X (show decode cX1_meetNeighbours 25 = .ok (.if_icmp .ge 93, 3) by decide +kernel) (by decide),
    mm_r_aload_n X (show decode cX1_meetNeighbours 28 = .ok (.aload_n 0, 1) by decide +kernel) rfl,
    mm_r_gfI X (ci := 1) (p := 7) (show mm_kd 1 7 = 0 by decide +kernel) rfl (Nat.le_of_ble_eq_true rfl) (show decode cX1_meetNeighbours 29 = .ok (.getfield 28, 3) by decide +kernel) mw_86 rfl,
    mm_r_iconst X (show decode cX1_meetNeighbours 32 = .ok (.iconst 1, 1) by decide +kernel) rfl,
    mm_r_ne2 X (show decode cX1_meetNeighbours 33 = .ok (.if_icmp .ne 12, 3) by decide +kernel) (by decide),
    mm_r_gets X (i := 2) rfl (show decode cX1_meetNeighbours 36 = .ok (.getstatic 57, 3) by decide +kernel) mw_136,
    mm_r_iload X (show decode cX1_meetNeighbours 39 = .ok (.iload 4, 2) by decide +kernel),
    mm_r_aldS X (show decode cX1_meetNeighbours 41 = .ok (.iaload, 1) by decide +kernel),
    mm_r_goto X (show decode cX1_meetNeighbours 42 = .ok (.goto 9, 3) by decide +kernel) (by decide),
    mm_r_gets X (i := 1) rfl (show decode cX1_meetNeighbours 45 = .ok (.getstatic 60, 3) by decide +kernel) mw_138,
    mm_r_iload X (show decode cX1_meetNeighbours 48 = .ok (.iload 4, 2) by decide +kernel),
    mm_r_aldS X (show decode cX1_meetNeighbours 50 = .ok (.iaload, 1) by decide +kernel),
    mm_r_istore X (show decode cX1_meetNeighbours 51 = .ok (.istore 5, 2) by decide +kernel) (Nat.le_of_ble_eq_true rfl),
    mm_r_aload_n X (show decode cX1_meetNeighbours 53 = .ok (.aload_n 0, 1) by decide +kernel) rfl,
    mm_r_aload_n X (show decode cX1_meetNeighbours 54 = .ok (.aload_n 0, 1) by decide +kernel) rfl,
    mm_r_gfR X (ci := 1) (p := 0) (show mm_kd 1 0 = 2 by decide +kernel) rfl (Nat.le_of_ble_eq_true rfl) (show decode cX1_meetNeighbours 55 = .ok (.getfield 9, 3) by decide +kernel) mw_79 rfl,
    mm_r_iload_n X (show decode cX1_meetNeighbours 58 = .ok (.iload_n 1, 1) by decide +kernel) rfl,
    mm_r_iald X (show decode cX1_meetNeighbours 59 = .ok (.iaload, 1) by decide +kernel),
    mm_r_gets X (i := 0) rfl (show decode cX1_meetNeighbours 60 = .ok (.getstatic 63, 3) by decide +kernel) mw_140,
    mm_r_iload X (show decode cX1_meetNeighbours 63 = .ok (.iload 4, 2) by decide +kernel),
    mm_r_aldS X (show decode cX1_meetNeighbours 65 = .ok (.iaload, 1) by decide +kernel),
    mm_r_iadd X (show decode cX1_meetNeighbours 66 = .ok (.iadd, 1) by decide +kernel),
    mm_r_aload_n X (show decode cX1_meetNeighbours 67 = .ok (.aload_n 0, 1) by decide +kernel) rfl,
    mm_r_gfR X (ci := 1) (p := 1) (show mm_kd 1 1 = 2 by decide +kernel) rfl (Nat.le_of_ble_eq_true rfl) (show decode cX1_meetNeighbours 68 = .ok (.getfield 15, 3) by decide +kernel) mw_80 rfl,
    mm_r_iload_n X (show decode cX1_meetNeighbours 71 = .ok (.iload_n 1, 1) by decide +kernel) rfl,
    mm_r_iald X (show decode cX1_meetNeighbours 72 = .ok (.iaload, 1) by decide +kernel),
    mm_r_iload X (show decode cX1_meetNeighbours 73 = .ok (.iload 5, 2) by decide +kernel),
    mm_r_iadd X (show decode cX1_meetNeighbours 75 = .ok (.iadd, 1) by decide +kernel),
    mm_r_clV X hth (ci := 1) (na := 2) (sn_X1_at hl) rfl (show decode cX1_meetNeighbours 76 = .ok (.invokevirtual 66, 3) by decide +kernel) mw_145 mw_142 mw_144 mw_2 mw_45 hd_X1_at ⟨(Nat.le_of_ble_eq_true rfl), (Nat.le_of_ble_eq_true rfl)⟩,
    mm_r_istore X (show decode cX1_meetNeighbours 79 = .ok (.istore 6, 2) by decide +kernel) (Nat.le_of_ble_eq_true rfl),
    mm_r_aload_n X (show decode cX1_meetNeighbours 81 = .ok (.aload_n 0, 1) by decide +kernel) rfl,
    mm_r_gfR X (ci := 1) (p := 2) (show mm_kd 1 2 = 2 by decide +kernel) rfl (Nat.le_of_ble_eq_true rfl) (show decode cX1_meetNeighbours 82 = .ok (.getfield 18, 3) by decide +kernel) mw_81 rfl,
    mm_r_iload_n X (show decode cX1_meetNeighbours 85 = .ok (.iload_n 1, 1) by decide +kernel) rfl,
    mm_r_bipush X (show decode cX1_meetNeighbours 86 = .ok (.bipush 6, 2) by decide +kernel) rfl,
    mm_r_imul X (show decode cX1_meetNeighbours 88 = .ok (.imul, 1) by decide +kernel),
    mm_r_iload X (show decode cX1_meetNeighbours 89 = .ok (.iload 4, 2) by decide +kernel),
    mm_r_iadd X (show decode cX1_meetNeighbours 91 = .ok (.iadd, 1) by decide +kernel),
    mm_r_iload X (show decode cX1_meetNeighbours 92 = .ok (.iload 6, 2) by decide +kernel),
    mm_r_iast X (show decode cX1_meetNeighbours 94 = .ok (.iastore, 1) by decide +kernel),
    mm_r_lload_n X (show decode cX1_meetNeighbours 95 = .ok (.lload_n 2, 1) by decide +kernel) rfl,
    mm_r_iload X (show decode cX1_meetNeighbours 96 = .ok (.iload 6, 2) by decide +kernel),
    mm_r_iconst X (show decode cX1_meetNeighbours 98 = .ok (.iconst (-1), 1) by decide +kernel) rfl,
    mm_r_ne2 X (show decode cX1_meetNeighbours 99 = .ok (.if_icmp .ne 7, 3) by decide +kernel) (by decide),
    mm_r_lconst X (show decode cX1_meetNeighbours 102 = .ok (.lconst 0, 1) by decide +kernel) rfl,
    mm_r_goto X (show decode cX1_meetNeighbours 103 = .ok (.goto 7, 3) by decide +kernel) (by decide),
    mm_r_lconst X (show decode cX1_meetNeighbours 106 = .ok (.lconst 1, 1) by decide +kernel) rfl,
    mm_r_iload X (show decode cX1_meetNeighbours 107 = .ok (.iload 6, 2) by decide +kernel),
    mm_r_lshl X (show decode cX1_meetNeighbours 109 = .ok (.lshl, 1) by decide +kernel),
    mm_r_lor X (show decode cX1_meetNeighbours 110 = .ok (.lor, 1) by decide +kernel),
    mm_r_lstore_n X (show decode cX1_meetNeighbours 111 = .ok (.lstore_n 2, 1) by decide +kernel) rfl (Nat.le_of_ble_eq_true rfl),
    mm_r_iinc X (show decode cX1_meetNeighbours 112 = .ok (.iinc 4 1, 3) by decide +kernel) rfl (Nat.le_of_ble_eq_true rfl),
    mm_r_goto X (show decode cX1_meetNeighbours 115 = .ok (.goto (-94), 3) by decide +kernel) (by decide),
    mm_r_aload_n X (show decode cX1_meetNeighbours 118 = .ok (.aload_n 0, 1) by decide +kernel) rfl,
    mm_r_gfR X (ci := 1) (p := 3) (show mm_kd 1 3 = 2 by decide +kernel) rfl (Nat.le_of_ble_eq_true rfl) (show decode cX1_meetNeighbours 119 = .ok (.getfield 21, 3) by decide +kernel) mw_82 rfl,
    mm_r_iload_n X (show decode cX1_meetNeighbours 122 = .ok (.iload_n 1, 1) by decide +kernel) rfl,
    mm_r_lload_n X (show decode cX1_meetNeighbours 123 = .ok (.lload_n 2, 1) by decide +kernel) rfl,
    mm_r_last X (show decode cX1_meetNeighbours 124 = .ok (.lastore, 1) by decide +kernel),
    mm_r_iinc X (show decode cX1_meetNeighbours 125 = .ok (.iinc 1 1, 3) by decide +kernel) rfl (Nat.le_of_ble_eq_true rfl),
    mm_r_goto X (show decode cX1_meetNeighbours 128 = .ok (.goto (-126), 3) by decide +kernel) (by decide),
    mm_r_vret X hret (show decode cX1_meetNeighbours 131 = .ok (.return_, 1) by decide +kernel), trivial⟩
theorem sn_X1_meetNeighbours {l : Launch} (hl : l.stackTraces = false) : mm_Snd l yX1_meetNeighbours (.code yX1_meetNeighbours cX1_meetNeighbours 7 none) 2 42 f_X1_meetNeighbours := mm_met hl (plainFor_of_name (by decide +kernel)) (ok_X1_meetNeighbours hl)
/-! Linkcourt$Board.row(I)I -/
noncomputable def tb_X1_row : List (Nat × mm_I) := [(0, mm_ldI 1 1), (1, mm_lt1 10 4), (4, mm_ldI 5 1), (5, mm_k 7 (.int 36)), (7, mm_lt2 14 10), (10, mm_k 11 (.int (-1))), (11, mm_go 20), (14, mm_ldR 15 0), (15, mm_gfR 18 1 0), (18, mm_ldI 19 1), (19, mm_ald 20 0), (20, mm_rtI)]
noncomputable def f_X1_row : mm_F := mm_do (mm_pr tb_X1_row) 2
theorem mn_X1_row : mm_alln tb_X1_row := ⟨mm_n_ldI _ _, mm_n_lt1 _ _, mm_n_ldI _ _, mm_n_k _ _, mm_n_lt2 _ _, mm_n_k _ _, mm_n_go _, mm_n_ldR _ _, mm_n_gfR _ _ _, mm_n_ldI _ _, mm_n_ald _ _, mm_n_rtI, trivial⟩
theorem mo_X1_row : mm_Mo f_X1_row := mm_do_mo (mm_alln_mem mn_X1_row)
set_option maxRecDepth 10000 in
theorem ok_X1_row {l : Launch} (hl : l.stackTraces = false) : mm_Ok l yX1_row cX1_row 2 (some .int) 1 20 tb_X1_row := by
  refine ⟨mm_alln_mem mn_X1_row, fun p e cells slots s m args below meth c D tc A S ad Tg X hret hname htab hth => mm_allr_mem ?_⟩
  exact ⟨mm_r_iload_n X (show decode cX1_row 0 = .ok (.iload_n 1, 1) by decide +kernel) rfl,
    mm_r_lt1 X (show decode cX1_row 1 = .ok (.ifCond .lt 9, 3) by decide +kernel) (by decide),
    mm_r_iload_n X (show decode cX1_row 4 = .ok (.iload_n 1, 1) by decide +kernel) rfl,
    mm_r_bipush X (show decode cX1_row 5 = .ok (.bipush 36, 2) by decide +kernel) rfl,
    mm_r_lt2 X (show decode cX1_row 7 = .ok (.if_icmp .lt 7, 3) by decide +kernel) (by decide),
    mm_r_iconst X (show decode cX1_row 10 = .ok (.iconst (-1), 1) by decide +kernel) rfl,
    mm_r_goto X (show decode cX1_row 11 = .ok (.goto 9, 3) by decide +kernel) (by decide),
    mm_r_aload_n X (show decode cX1_row 14 = .ok (.aload_n 0, 1) by decide +kernel) rfl,
    mm_r_gfR X (ci := 1) (p := 0) (show mm_kd 1 0 = 2 by decide +kernel) rfl (Nat.le_of_ble_eq_true rfl) (show decode cX1_row 15 = .ok (.getfield 9, 3) by decide +kernel) mw_79 rfl,
    mm_r_iload_n X (show decode cX1_row 18 = .ok (.iload_n 1, 1) by decide +kernel) rfl,
    mm_r_iald X (show decode cX1_row 19 = .ok (.iaload, 1) by decide +kernel),
    mm_r_iret X hret (show decode cX1_row 20 = .ok (.ireturn, 1) by decide +kernel), trivial⟩
theorem sn_X1_row {l : Launch} (hl : l.stackTraces = false) : mm_Snd l yX1_row (.code yX1_row cX1_row 2 (some .int)) 1 20 f_X1_row := mm_met hl (plainFor_of_name (by decide +kernel)) (ok_X1_row hl)
/-! Linkcourt$Board.column(I)I -/
noncomputable def tb_X1_column : List (Nat × mm_I) := [(0, mm_ldI 1 1), (1, mm_lt1 10 4), (4, mm_ldI 5 1), (5, mm_k 7 (.int 36)), (7, mm_lt2 14 10), (10, mm_k 11 (.int (-1))), (11, mm_go 20), (14, mm_ldR 15 0), (15, mm_gfR 18 1 1), (18, mm_ldI 19 1), (19, mm_ald 20 0), (20, mm_rtI)]
noncomputable def f_X1_column : mm_F := mm_do (mm_pr tb_X1_column) 2
theorem mn_X1_column : mm_alln tb_X1_column := ⟨mm_n_ldI _ _, mm_n_lt1 _ _, mm_n_ldI _ _, mm_n_k _ _, mm_n_lt2 _ _, mm_n_k _ _, mm_n_go _, mm_n_ldR _ _, mm_n_gfR _ _ _, mm_n_ldI _ _, mm_n_ald _ _, mm_n_rtI, trivial⟩
theorem mo_X1_column : mm_Mo f_X1_column := mm_do_mo (mm_alln_mem mn_X1_column)
set_option maxRecDepth 10000 in
theorem ok_X1_column {l : Launch} (hl : l.stackTraces = false) : mm_Ok l yX1_column cX1_column 2 (some .int) 1 20 tb_X1_column := by
  refine ⟨mm_alln_mem mn_X1_column, fun p e cells slots s m args below meth c D tc A S ad Tg X hret hname htab hth => mm_allr_mem ?_⟩
  exact ⟨mm_r_iload_n X (show decode cX1_column 0 = .ok (.iload_n 1, 1) by decide +kernel) rfl,
    mm_r_lt1 X (show decode cX1_column 1 = .ok (.ifCond .lt 9, 3) by decide +kernel) (by decide),
    mm_r_iload_n X (show decode cX1_column 4 = .ok (.iload_n 1, 1) by decide +kernel) rfl,
    mm_r_bipush X (show decode cX1_column 5 = .ok (.bipush 36, 2) by decide +kernel) rfl,
    mm_r_lt2 X (show decode cX1_column 7 = .ok (.if_icmp .lt 7, 3) by decide +kernel) (by decide),
    mm_r_iconst X (show decode cX1_column 10 = .ok (.iconst (-1), 1) by decide +kernel) rfl,
    mm_r_goto X (show decode cX1_column 11 = .ok (.goto 9, 3) by decide +kernel) (by decide),
    mm_r_aload_n X (show decode cX1_column 14 = .ok (.aload_n 0, 1) by decide +kernel) rfl,
    mm_r_gfR X (ci := 1) (p := 1) (show mm_kd 1 1 = 2 by decide +kernel) rfl (Nat.le_of_ble_eq_true rfl) (show decode cX1_column 15 = .ok (.getfield 15, 3) by decide +kernel) mw_80 rfl,
    mm_r_iload_n X (show decode cX1_column 18 = .ok (.iload_n 1, 1) by decide +kernel) rfl,
    mm_r_iald X (show decode cX1_column 19 = .ok (.iaload, 1) by decide +kernel),
    mm_r_iret X hret (show decode cX1_column 20 = .ok (.ireturn, 1) by decide +kernel), trivial⟩
theorem sn_X1_column {l : Launch} (hl : l.stackTraces = false) : mm_Snd l yX1_column (.code yX1_column cX1_column 2 (some .int)) 1 20 f_X1_column := mm_met hl (plainFor_of_name (by decide +kernel)) (ok_X1_column hl)
/-! Linkcourt$Board.isAt(II)Z -/
noncomputable def tb_X1_isAt : List (Nat × mm_I) := [(0, mm_ldR 1 0), (1, mm_ldI 2 1), (2, mm_clV 5 1 1 f_X1_row), (5, mm_ne1 12 8), (8, mm_k 9 (.int 1)), (9, mm_go 13), (12, mm_k 13 (.int 0)), (13, mm_stI 14 3), (14, mm_ldR 15 0), (15, mm_ldI 16 1), (16, mm_clV 19 1 1 f_X1_row), (19, mm_ldR 20 0), (20, mm_gfI 23 1 5), (23, mm_k 24 (.int 1)), (24, mm_i2 25 (fun a b => a - b)), (25, mm_ne2 32 28), (28, mm_k 29 (.int 1)), (29, mm_go 33), (32, mm_k 33 (.int 0)), (33, mm_stI 35 4), (35, mm_ldR 36 0), (36, mm_ldI 37 1), (37, mm_clV 40 1 1 f_X1_column), (40, mm_ne1 47 43), (43, mm_k 44 (.int 1)), (44, mm_go 48), (47, mm_k 48 (.int 0)), (48, mm_stI 50 5), (50, mm_ldR 51 0), (51, mm_gfI 54 1 7), (54, mm_lsw 129 [(1, 80), (2, 118)]), (80, mm_ldI 81 2), (81, mm_ne1 89 84), (84, mm_ldI 86 5), (86, mm_go 117), (89, mm_ldI 90 2), (90, mm_k 91 (.int 1)), (91, mm_ne2 115 94), (94, mm_ldR 95 0), (95, mm_ldI 96 1), (96, mm_clV 99 1 1 f_X1_column), (99, mm_ldR 100 0), (100, mm_ldI 101 1), (101, mm_clV 104 1 1 f_X1_row), (104, mm_ne2 111 107), (107, mm_k 108 (.int 1)), (108, mm_go 117), (111, mm_k 112 (.int 0)), (112, mm_go 117), (115, mm_ldI 117 4), (117, mm_rtZ), (118, mm_ldI 119 2), (119, mm_ne1 126 122), (122, mm_ldI 123 3), (123, mm_go 128), (126, mm_ldI 128 4), (128, mm_rtZ), (129, mm_ldI 130 2), (130, mm_ne1 138 133), (133, mm_ldI 135 5), (135, mm_go 176), (138, mm_ldI 139 2), (139, mm_k 140 (.int 1)), (140, mm_ne2 165 143), (143, mm_ldR 144 0), (144, mm_ldI 145 1), (145, mm_clV 148 1 1 f_X1_column), (148, mm_ldR 149 0), (149, mm_gfI 152 1 6), (152, mm_k 153 (.int 1)), (153, mm_i2 154 (fun a b => a - b)), (154, mm_ne2 161 157), (157, mm_k 158 (.int 1)), (158, mm_go 176), (161, mm_k 162 (.int 0)), (162, mm_go 176), (165, mm_ldI 166 2), (166, mm_k 167 (.int 2)), (167, mm_ne2 174 170), (170, mm_ldI 171 3), (171, mm_go 176), (174, mm_ldI 176 4), (176, mm_rtZ)]
noncomputable def f_X1_isAt : mm_F := mm_do (mm_pr tb_X1_isAt) 6
theorem mn_X1_isAt : mm_alln tb_X1_isAt := ⟨mm_n_ldR _ _, mm_n_ldI _ _, mm_n_clV _ _ _ (mo_X1_row), mm_n_ne1 _ _, mm_n_k _ _, mm_n_go _, mm_n_k _ _, mm_n_stI _ _, mm_n_ldR _ _, mm_n_ldI _ _, mm_n_clV _ _ _ (mo_X1_row), mm_n_ldR _ _, mm_n_gfI _ _ _, mm_n_k _ _, mm_n_i2 _ _, mm_n_ne2 _ _, mm_n_k _ _, mm_n_go _, mm_n_k _ _, mm_n_stI _ _, mm_n_ldR _ _, mm_n_ldI _ _, mm_n_clV _ _ _ (mo_X1_column), mm_n_ne1 _ _, mm_n_k _ _, mm_n_go _, mm_n_k _ _, mm_n_stI _ _, mm_n_ldR _ _, mm_n_gfI _ _ _, mm_n_lsw _ _, mm_n_ldI _ _, mm_n_ne1 _ _, mm_n_ldI _ _, mm_n_go _, mm_n_ldI _ _, mm_n_k _ _, mm_n_ne2 _ _, mm_n_ldR _ _, mm_n_ldI _ _, mm_n_clV _ _ _ (mo_X1_column), mm_n_ldR _ _, mm_n_ldI _ _, mm_n_clV _ _ _ (mo_X1_row), mm_n_ne2 _ _, mm_n_k _ _, mm_n_go _, mm_n_k _ _, mm_n_go _, mm_n_ldI _ _, mm_n_rtZ, mm_n_ldI _ _, mm_n_ne1 _ _, mm_n_ldI _ _, mm_n_go _, mm_n_ldI _ _, mm_n_rtZ, mm_n_ldI _ _, mm_n_ne1 _ _, mm_n_ldI _ _, mm_n_go _, mm_n_ldI _ _, mm_n_k _ _, mm_n_ne2 _ _, mm_n_ldR _ _, mm_n_ldI _ _, mm_n_clV _ _ _ (mo_X1_column), mm_n_ldR _ _, mm_n_gfI _ _ _, mm_n_k _ _, mm_n_i2 _ _, mm_n_ne2 _ _, mm_n_k _ _, mm_n_go _, mm_n_k _ _, mm_n_go _, mm_n_ldI _ _, mm_n_k _ _, mm_n_ne2 _ _, mm_n_ldI _ _, mm_n_go _, mm_n_ldI _ _, mm_n_rtZ, trivial⟩
theorem mo_X1_isAt : mm_Mo f_X1_isAt := mm_do_mo (mm_alln_mem mn_X1_isAt)
set_option maxRecDepth 10000 in
theorem ok_X1_isAt {l : Launch} (hl : l.stackTraces = false) : mm_Ok l yX1_isAt cX1_isAt 6 (some .boolean) 2 41 tb_X1_isAt := by
  refine ⟨mm_alln_mem mn_X1_isAt, fun p e cells slots s m args below meth c D tc A S ad Tg X hret hname htab hth => mm_allr_mem ?_⟩
  exact ⟨mm_r_aload_n X (show decode cX1_isAt 0 = .ok (.aload_n 0, 1) by decide +kernel) rfl,
    mm_r_iload_n X (show decode cX1_isAt 1 = .ok (.iload_n 1, 1) by decide +kernel) rfl,
    mm_r_clV X hth (ci := 1) (na := 1) (sn_X1_row hl) rfl (show decode cX1_isAt 2 = .ok (.invokevirtual 74, 3) by decide +kernel) mw_157 mw_154 mw_155 mw_156 mw_45 hd_X1_row ⟨(Nat.le_of_ble_eq_true rfl), (Nat.le_of_ble_eq_true rfl)⟩,
    mm_r_ne1 X (show decode cX1_isAt 5 = .ok (.ifCond .ne 7, 3) by decide +kernel) (by decide),
    mm_r_iconst X (show decode cX1_isAt 8 = .ok (.iconst 1, 1) by decide +kernel) rfl,
    mm_r_goto X (show decode cX1_isAt 9 = .ok (.goto 4, 3) by decide +kernel) (by decide),
    mm_r_iconst X (show decode cX1_isAt 12 = .ok (.iconst 0, 1) by decide +kernel) rfl,
    mm_r_istore_n X (show decode cX1_isAt 13 = .ok (.istore_n 3, 1) by decide +kernel) rfl (Nat.le_of_ble_eq_true rfl),
    mm_r_aload_n X (show decode cX1_isAt 14 = .ok (.aload_n 0, 1) by decide +kernel) rfl,
    mm_r_iload_n X (show decode cX1_isAt 15 = .ok (.iload_n 1, 1) by decide +kernel) rfl,
    mm_r_clV X hth (ci := 1) (na := 1) (sn_X1_row hl) rfl (show decode cX1_isAt 16 = .ok (.invokevirtual 74, 3) by decide +kernel) mw_157 mw_154 mw_155 mw_156 mw_45 hd_X1_row ⟨(Nat.le_of_ble_eq_true rfl), (Nat.le_of_ble_eq_true rfl)⟩,
    mm_r_aload_n X (show decode cX1_isAt 19 = .ok (.aload_n 0, 1) by decide +kernel) rfl,
    mm_r_gfI X (ci := 1) (p := 5) (show mm_kd 1 5 = 0 by decide +kernel) rfl (Nat.le_of_ble_eq_true rfl) (show decode cX1_isAt 20 = .ok (.getfield 32, 3) by decide +kernel) mw_84 rfl,
    mm_r_iconst X (show decode cX1_isAt 23 = .ok (.iconst 1, 1) by decide +kernel) rfl,
    mm_r_isub X (show decode cX1_isAt 24 = .ok (.isub, 1) by decide +kernel),
    mm_r_ne2 X (show decode cX1_isAt 25 = .ok (.if_icmp .ne 7, 3) by decide +kernel) (by decide),
    mm_r_iconst X (show decode cX1_isAt 28 = .ok (.iconst 1, 1) by decide +kernel) rfl,
    mm_r_goto X (show decode cX1_isAt 29 = .ok (.goto 4, 3) by decide +kernel) (by decide),
    mm_r_iconst X (show decode cX1_isAt 32 = .ok (.iconst 0, 1) by decide +kernel) rfl,
    mm_r_istore X (show decode cX1_isAt 33 = .ok (.istore 4, 2) by decide +kernel) (Nat.le_of_ble_eq_true rfl),
    mm_r_aload_n X (show decode cX1_isAt 35 = .ok (.aload_n 0, 1) by decide +kernel) rfl,
    mm_r_iload_n X (show decode cX1_isAt 36 = .ok (.iload_n 1, 1) by decide +kernel) rfl,
    mm_r_clV X hth (ci := 1) (na := 1) (sn_X1_column hl) rfl (show decode cX1_isAt 37 = .ok (.invokevirtual 78, 3) by decide +kernel) mw_161 mw_158 mw_159 mw_160 mw_45 hd_X1_column ⟨(Nat.le_of_ble_eq_true rfl), (Nat.le_of_ble_eq_true rfl)⟩,
    mm_r_ne1 X (show decode cX1_isAt 40 = .ok (.ifCond .ne 7, 3) by decide +kernel) (by decide),
    mm_r_iconst X (show decode cX1_isAt 43 = .ok (.iconst 1, 1) by decide +kernel) rfl,
    mm_r_goto X (show decode cX1_isAt 44 = .ok (.goto 4, 3) by decide +kernel) (by decide),
    mm_r_iconst X (show decode cX1_isAt 47 = .ok (.iconst 0, 1) by decide +kernel) rfl,
    mm_r_istore X (show decode cX1_isAt 48 = .ok (.istore 5, 2) by decide +kernel) (Nat.le_of_ble_eq_true rfl),
    mm_r_aload_n X (show decode cX1_isAt 50 = .ok (.aload_n 0, 1) by decide +kernel) rfl,
    mm_r_gfI X (ci := 1) (p := 7) (show mm_kd 1 7 = 0 by decide +kernel) rfl (Nat.le_of_ble_eq_true rfl) (show decode cX1_isAt 51 = .ok (.getfield 28, 3) by decide +kernel) mw_86 rfl,
    mm_r_lsw X (show decode cX1_isAt 54 = .ok (.lookupswitch 75 #[(1, 26), (2, 64)], 26) by decide +kernel) (by decide) (by decide) (by decide),
    mm_r_iload_n X (show decode cX1_isAt 80 = .ok (.iload_n 2, 1) by decide +kernel) rfl,
    mm_r_ne1 X (show decode cX1_isAt 81 = .ok (.ifCond .ne 8, 3) by decide +kernel) (by decide),
    mm_r_iload X (show decode cX1_isAt 84 = .ok (.iload 5, 2) by decide +kernel),
    mm_r_goto X (show decode cX1_isAt 86 = .ok (.goto 31, 3) by decide +kernel) (by decide),
    mm_r_iload_n X (show decode cX1_isAt 89 = .ok (.iload_n 2, 1) by decide +kernel) rfl,
    mm_r_iconst X (show decode cX1_isAt 90 = .ok (.iconst 1, 1) by decide +kernel) rfl,
    mm_r_ne2 X (show decode cX1_isAt 91 = .ok (.if_icmp .ne 24, 3) by decide +kernel) (by decide),
    mm_r_aload_n X (show decode cX1_isAt 94 = .ok (.aload_n 0, 1) by decide +kernel) rfl,
    mm_r_iload_n X (show decode cX1_isAt 95 = .ok (.iload_n 1, 1) by decide +kernel) rfl,
    mm_r_clV X hth (ci := 1) (na := 1) (sn_X1_column hl) rfl (show decode cX1_isAt 96 = .ok (.invokevirtual 78, 3) by decide +kernel) mw_161 mw_158 mw_159 mw_160 mw_45 hd_X1_column ⟨(Nat.le_of_ble_eq_true rfl), (Nat.le_of_ble_eq_true rfl)⟩,
    mm_r_aload_n X (show decode cX1_isAt 99 = .ok (.aload_n 0, 1) by decide +kernel) rfl,
    mm_r_iload_n X (show decode cX1_isAt 100 = .ok (.iload_n 1, 1) by decide +kernel) rfl,
    mm_r_clV X hth (ci := 1) (na := 1) (sn_X1_row hl) rfl (show decode cX1_isAt 101 = .ok (.invokevirtual 74, 3) by decide +kernel) mw_157 mw_154 mw_155 mw_156 mw_45 hd_X1_row ⟨(Nat.le_of_ble_eq_true rfl), (Nat.le_of_ble_eq_true rfl)⟩,
    mm_r_ne2 X (show decode cX1_isAt 104 = .ok (.if_icmp .ne 7, 3) by decide +kernel) (by decide),
    mm_r_iconst X (show decode cX1_isAt 107 = .ok (.iconst 1, 1) by decide +kernel) rfl,
    mm_r_goto X (show decode cX1_isAt 108 = .ok (.goto 9, 3) by decide +kernel) (by decide),
    mm_r_iconst X (show decode cX1_isAt 111 = .ok (.iconst 0, 1) by decide +kernel) rfl,
    mm_r_goto X (show decode cX1_isAt 112 = .ok (.goto 5, 3) by decide +kernel) (by decide),
    mm_r_iload X (show decode cX1_isAt 115 = .ok (.iload 4, 2) by decide +kernel),
    mm_r_zret X hret (show decode cX1_isAt 117 = .ok (.ireturn, 1) by decide +kernel),
    mm_r_iload_n X (show decode cX1_isAt 118 = .ok (.iload_n 2, 1) by decide +kernel) rfl,
    mm_r_ne1 X (show decode cX1_isAt 119 = .ok (.ifCond .ne 7, 3) by decide +kernel) (by decide),
    mm_r_iload_n X (show decode cX1_isAt 122 = .ok (.iload_n 3, 1) by decide +kernel) rfl,
    mm_r_goto X (show decode cX1_isAt 123 = .ok (.goto 5, 3) by decide +kernel) (by decide),
    mm_r_iload X (show decode cX1_isAt 126 = .ok (.iload 4, 2) by decide +kernel),
    mm_r_zret X hret (show decode cX1_isAt 128 = .ok (.ireturn, 1) by decide +kernel),
    mm_r_iload_n X (show decode cX1_isAt 129 = .ok (.iload_n 2, 1) by decide +kernel) rfl,
    mm_r_ne1 X (show decode cX1_isAt 130 = .ok (.ifCond .ne 8, 3) by decide +kernel) (by decide),
    mm_r_iload X (show decode cX1_isAt 133 = .ok (.iload 5, 2) by decide +kernel),
    mm_r_goto X (show decode cX1_isAt 135 = .ok (.goto 41, 3) by decide +kernel) (by decide),
    mm_r_iload_n X (show decode cX1_isAt 138 = .ok (.iload_n 2, 1) by decide +kernel) rfl,
    mm_r_iconst X (show decode cX1_isAt 139 = .ok (.iconst 1, 1) by decide +kernel) rfl,
    mm_r_ne2 X (show decode cX1_isAt 140 = .ok (.if_icmp .ne 25, 3) by decide +kernel) (by decide),
    mm_r_aload_n X (show decode cX1_isAt 143 = .ok (.aload_n 0, 1) by decide +kernel) rfl,
    mm_r_iload_n X (show decode cX1_isAt 144 = .ok (.iload_n 1, 1) by decide +kernel) rfl,
    mm_r_clV X hth (ci := 1) (na := 1) (sn_X1_column hl) rfl (show decode cX1_isAt 145 = .ok (.invokevirtual 78, 3) by decide +kernel) mw_161 mw_158 mw_159 mw_160 mw_45 hd_X1_column ⟨(Nat.le_of_ble_eq_true rfl), (Nat.le_of_ble_eq_true rfl)⟩,
    mm_r_aload_n X (show decode cX1_isAt 148 = .ok (.aload_n 0, 1) by decide +kernel) rfl,
    mm_r_gfI X (ci := 1) (p := 6) (show mm_kd 1 6 = 0 by decide +kernel) rfl (Nat.le_of_ble_eq_true rfl) (show decode cX1_isAt 149 = .ok (.getfield 35, 3) by decide +kernel) mw_85 rfl,
    mm_r_iconst X (show decode cX1_isAt 152 = .ok (.iconst 1, 1) by decide +kernel) rfl,
    mm_r_isub X (show decode cX1_isAt 153 = .ok (.isub, 1) by decide +kernel),
    mm_r_ne2 X (show decode cX1_isAt 154 = .ok (.if_icmp .ne 7, 3) by decide +kernel) (by decide),
    mm_r_iconst X (show decode cX1_isAt 157 = .ok (.iconst 1, 1) by decide +kernel) rfl,
    mm_r_goto X (show decode cX1_isAt 158 = .ok (.goto 18, 3) by decide +kernel) (by decide),
    mm_r_iconst X (show decode cX1_isAt 161 = .ok (.iconst 0, 1) by decide +kernel) rfl,
    mm_r_goto X (show decode cX1_isAt 162 = .ok (.goto 14, 3) by decide +kernel) (by decide),
    mm_r_iload_n X (show decode cX1_isAt 165 = .ok (.iload_n 2, 1) by decide +kernel) rfl,
    mm_r_iconst X (show decode cX1_isAt 166 = .ok (.iconst 2, 1) by decide +kernel) rfl,
    mm_r_ne2 X (show decode cX1_isAt 167 = .ok (.if_icmp .ne 7, 3) by decide +kernel) (by decide),
    mm_r_iload_n X (show decode cX1_isAt 170 = .ok (.iload_n 3, 1) by decide +kernel) rfl,
    mm_r_goto X (show decode cX1_isAt 171 = .ok (.goto 5, 3) by decide +kernel) (by decide),
    mm_r_iload X (show decode cX1_isAt 174 = .ok (.iload 4, 2) by decide +kernel),
    mm_r_zret X hret (show decode cX1_isAt 176 = .ok (.ireturn, 1) by decide +kernel), trivial⟩
theorem sn_X1_isAt {l : Launch} (hl : l.stackTraces = false) : mm_Snd l yX1_isAt (.code yX1_isAt cX1_isAt 6 (some .boolean)) 2 41 f_X1_isAt := mm_met hl (plainFor_of_name (by decide +kernel)) (ok_X1_isAt hl)
/-! Linkcourt$Board.findSides()V -/
noncomputable def tb_X1_findSides : List (Nat × mm_I) := [(0, mm_k 1 (.int 0)), (1, mm_stI 2 1), (2, mm_ldI 3 1), (3, mm_k 4 (.int 4)), (4, mm_ge2 69 7), (7, mm_k 8 (.long 0)), (8, mm_stJ 9 2), (9, mm_k 10 (.int 0)), (10, mm_stI 12 4), (12, mm_ldI 14 4), (14, mm_ldR 15 0), (15, mm_gfI 18 1 8), (18, mm_ge2 56 21), (21, mm_ldJ 22 2), (22, mm_ldI 23 1), (23, mm_ldR 24 0), (24, mm_gfI 27 1 9), (27, mm_ge2 47 30), (30, mm_ldR 31 0), (31, mm_ldI 33 4), (33, mm_ldI 34 1), (34, mm_clV 37 1 2 f_X1_isAt), (37, mm_eq1 47 40), (40, mm_k 41 (.long 1)), (41, mm_ldI 43 4), (43, mm_ls 44 (fun a b => a <<< (b.toInt64 &&& 63))), (44, mm_go 48), (47, mm_k 48 (.long 0)), (48, mm_l2 49 (fun a b => a ||| b)), (49, mm_stJ 50 2), (50, mm_inc 53 4 1), (53, mm_go 12), (56, mm_ldR 57 0), (57, mm_gfR 60 1 4), (60, mm_ldI 61 1), (61, mm_ldJ 62 2), (62, mm_astJ 63), (63, mm_inc 66 1 1), (66, mm_go 2), (69, mm_rtV)]
noncomputable def f_X1_findSides : mm_F := mm_do (mm_pr tb_X1_findSides) 5
theorem mn_X1_findSides : mm_alln tb_X1_findSides := ⟨mm_n_k _ _, mm_n_stI _ _, mm_n_ldI _ _, mm_n_k _ _, mm_n_ge2 _ _, mm_n_k _ _, mm_n_stJ _ _, mm_n_k _ _, mm_n_stI _ _, mm_n_ldI _ _, mm_n_ldR _ _, mm_n_gfI _ _ _, mm_n_ge2 _ _, mm_n_ldJ _ _, mm_n_ldI _ _, mm_n_ldR _ _, mm_n_gfI _ _ _, mm_n_ge2 _ _, mm_n_ldR _ _, mm_n_ldI _ _, mm_n_ldI _ _, mm_n_clV _ _ _ (mo_X1_isAt), mm_n_eq1 _ _, mm_n_k _ _, mm_n_ldI _ _, mm_n_ls _ _, mm_n_go _, mm_n_k _ _, mm_n_l2 _ _, mm_n_stJ _ _, mm_n_inc _ _ _, mm_n_go _, mm_n_ldR _ _, mm_n_gfR _ _ _, mm_n_ldI _ _, mm_n_ldJ _ _, mm_n_astJ _, mm_n_inc _ _ _, mm_n_go _, mm_n_rtV, trivial⟩
theorem mo_X1_findSides : mm_Mo f_X1_findSides := mm_do_mo (mm_alln_mem mn_X1_findSides)
set_option maxRecDepth 10000 in
theorem ok_X1_findSides {l : Launch} (hl : l.stackTraces = false) : mm_Ok l yX1_findSides cX1_findSides 5 none 3 66 tb_X1_findSides := by
  refine ⟨mm_alln_mem mn_X1_findSides, fun p e cells slots s m args below meth c D tc A S ad Tg X hret hname htab hth => mm_allr_mem ?_⟩
  exact ⟨mm_r_iconst X (show decode cX1_findSides 0 = .ok (.iconst 0, 1) by decide +kernel) rfl,
    mm_r_istore_n X (show decode cX1_findSides 1 = .ok (.istore_n 1, 1) by decide +kernel) rfl (Nat.le_of_ble_eq_true rfl),
    mm_r_iload_n X (show decode cX1_findSides 2 = .ok (.iload_n 1, 1) by decide +kernel) rfl,
    mm_r_iconst X (show decode cX1_findSides 3 = .ok (.iconst 4, 1) by decide +kernel) rfl,
    mm_r_ge2 X (show decode cX1_findSides 4 = .ok (.if_icmp .ge 65, 3) by decide +kernel) (by decide),
    mm_r_lconst X (show decode cX1_findSides 7 = .ok (.lconst 0, 1) by decide +kernel) rfl,
    mm_r_lstore_n X (show decode cX1_findSides 8 = .ok (.lstore_n 2, 1) by decide +kernel) rfl (Nat.le_of_ble_eq_true rfl),
    mm_r_iconst X (show decode cX1_findSides 9 = .ok (.iconst 0, 1) by decide +kernel) rfl,
    mm_r_istore X (show decode cX1_findSides 10 = .ok (.istore 4, 2) by decide +kernel) (Nat.le_of_ble_eq_true rfl),
    mm_r_iload X (show decode cX1_findSides 12 = .ok (.iload 4, 2) by decide +kernel),
    mm_r_aload_n X (show decode cX1_findSides 14 = .ok (.aload_n 0, 1) by decide +kernel) rfl,
    mm_r_gfI X (ci := 1) (p := 8) (show mm_kd 1 8 = 0 by decide +kernel) rfl (Nat.le_of_ble_eq_true rfl) (show decode cX1_findSides 15 = .ok (.getfield 44, 3) by decide +kernel) mw_89 rfl,
    mm_r_ge2 X (show decode cX1_findSides 18 = .ok (.if_icmp .ge 38, 3) by decide +kernel) (by decide),
    mm_r_lload_n X (show decode cX1_findSides 21 = .ok (.lload_n 2, 1) by decide +kernel) rfl,
    mm_r_iload_n X (show decode cX1_findSides 22 = .ok (.iload_n 1, 1) by decide +kernel) rfl,
    mm_r_aload_n X (show decode cX1_findSides 23 = .ok (.aload_n 0, 1) by decide +kernel) rfl,
    mm_r_gfI X (ci := 1) (p := 9) (show mm_kd 1 9 = 0 by decide +kernel) rfl (Nat.le_of_ble_eq_true rfl) (show decode cX1_findSides 24 = .ok (.getfield 38, 3) by decide +kernel) mw_93 rfl,
    mm_r_ge2 X (show decode cX1_findSides 27 = .ok (.if_icmp .ge 20, 3) by decide +kernel) (by decide),
    mm_r_aload_n X (show decode cX1_findSides 30 = .ok (.aload_n 0, 1) by decide +kernel) rfl,
    mm_r_iload X (show decode cX1_findSides 31 = .ok (.iload 4, 2) by decide +kernel),
    mm_r_iload_n X (show decode cX1_findSides 33 = .ok (.iload_n 1, 1) by decide +kernel) rfl,
    mm_r_clV X hth (ci := 1) (na := 2) (sn_X1_isAt hl) rfl (show decode cX1_findSides 34 = .ok (.invokevirtual 70, 3) by decide +kernel) mw_153 mw_150 mw_152 mw_4 mw_45 hd_X1_isAt ⟨(Nat.le_of_ble_eq_true rfl), (Nat.le_of_ble_eq_true rfl)⟩,
    mm_r_eq1 X (show decode cX1_findSides 37 = .ok (.ifCond .eq 10, 3) by decide +kernel) (by decide),
    mm_r_lconst X (show decode cX1_findSides 40 = .ok (.lconst 1, 1) by decide +kernel) rfl,
    mm_r_iload X (show decode cX1_findSides 41 = .ok (.iload 4, 2) by decide +kernel),
    mm_r_lshl X (show decode cX1_findSides 43 = .ok (.lshl, 1) by decide +kernel),
    mm_r_goto X (show decode cX1_findSides 44 = .ok (.goto 4, 3) by decide +kernel) (by decide),
    mm_r_lconst X (show decode cX1_findSides 47 = .ok (.lconst 0, 1) by decide +kernel) rfl,
    mm_r_lor X (show decode cX1_findSides 48 = .ok (.lor, 1) by decide +kernel),
    mm_r_lstore_n X (show decode cX1_findSides 49 = .ok (.lstore_n 2, 1) by decide +kernel) rfl (Nat.le_of_ble_eq_true rfl),
    mm_r_iinc X (show decode cX1_findSides 50 = .ok (.iinc 4 1, 3) by decide +kernel) rfl (Nat.le_of_ble_eq_true rfl),
    mm_r_goto X (show decode cX1_findSides 53 = .ok (.goto (-41), 3) by decide +kernel) (by decide),
    mm_r_aload_n X (show decode cX1_findSides 56 = .ok (.aload_n 0, 1) by decide +kernel) rfl,
    mm_r_gfR X (ci := 1) (p := 4) (show mm_kd 1 4 = 2 by decide +kernel) rfl (Nat.le_of_ble_eq_true rfl) (show decode cX1_findSides 57 = .ok (.getfield 25, 3) by decide +kernel) mw_83 rfl,
    mm_r_iload_n X (show decode cX1_findSides 60 = .ok (.iload_n 1, 1) by decide +kernel) rfl,
    mm_r_lload_n X (show decode cX1_findSides 61 = .ok (.lload_n 2, 1) by decide +kernel) rfl,
    mm_r_last X (show decode cX1_findSides 62 = .ok (.lastore, 1) by decide +kernel),
    mm_r_iinc X (show decode cX1_findSides 63 = .ok (.iinc 1 1, 3) by decide +kernel) rfl (Nat.le_of_ble_eq_true rfl),
    mm_r_goto X (show decode cX1_findSides 66 = .ok (.goto (-64), 3) by decide +kernel) (by decide),
    mm_r_vret X hret (show decode cX1_findSides 69 = .ok (.return_, 1) by decide +kernel), trivial⟩
theorem sn_X1_findSides {l : Launch} (hl : l.stackTraces = false) : mm_Snd l yX1_findSides (.code yX1_findSides cX1_findSides 5 none) 3 66 f_X1_findSides := mm_met hl (plainFor_of_name (by decide +kernel)) (ok_X1_findSides hl)
/-! Linkcourt$Board.lay(III)V -/
noncomputable def tb_X1_lay : List (Nat × mm_I) := [(0, mm_ldR 1 0), (1, mm_ldI 2 1), (2, mm_pfI 5 1 7), (5, mm_ldR 6 0), (6, mm_ldI 7 2), (7, mm_pfI 10 1 5), (10, mm_ldR 11 0), (11, mm_ldI 12 3), (12, mm_pfI 15 1 6), (15, mm_ldR 16 0), (16, mm_ldR 17 0), (17, mm_gfI 20 1 7), (20, mm_ne1 27 23), (23, mm_k 24 (.int 4)), (24, mm_go 40), (27, mm_ldR 28 0), (28, mm_gfI 31 1 7), (31, mm_k 32 (.int 1)), (32, mm_ne2 39 35), (35, mm_k 36 (.int 3)), (36, mm_go 40), (39, mm_k 40 (.int 2)), (40, mm_pfI 43 1 9), (43, mm_ldR 44 0), (44, mm_clV 47 1 0 f_X1_numberCells), (47, mm_ldR 48 0), (48, mm_k 49 (.long 1)), (49, mm_ldR 50 0), (50, mm_gfI 53 1 8), (53, mm_ls 54 (fun a b => a <<< (b.toInt64 &&& 63))), (54, mm_k 55 (.long 1)), (55, mm_l2 56 (fun a b => a - b)), (56, mm_pfJ 59 1 10), (59, mm_ldR 60 0), (60, mm_clV 63 1 0 f_X1_meetNeighbours), (63, mm_ldR 64 0), (64, mm_clV 67 1 0 f_X1_findSides), (67, mm_rtV)]
noncomputable def f_X1_lay : mm_F := mm_do (mm_pr tb_X1_lay) 4
theorem mn_X1_lay : mm_alln tb_X1_lay := ⟨mm_n_ldR _ _, mm_n_ldI _ _, mm_n_pfI _ _ _, mm_n_ldR _ _, mm_n_ldI _ _, mm_n_pfI _ _ _, mm_n_ldR _ _, mm_n_ldI _ _, mm_n_pfI _ _ _, mm_n_ldR _ _, mm_n_ldR _ _, mm_n_gfI _ _ _, mm_n_ne1 _ _, mm_n_k _ _, mm_n_go _, mm_n_ldR _ _, mm_n_gfI _ _ _, mm_n_k _ _, mm_n_ne2 _ _, mm_n_k _ _, mm_n_go _, mm_n_k _ _, mm_n_pfI _ _ _, mm_n_ldR _ _, mm_n_clV _ _ _ (mo_X1_numberCells), mm_n_ldR _ _, mm_n_k _ _, mm_n_ldR _ _, mm_n_gfI _ _ _, mm_n_ls _ _, mm_n_k _ _, mm_n_l2 _ _, mm_n_pfJ _ _ _, mm_n_ldR _ _, mm_n_clV _ _ _ (mo_X1_meetNeighbours), mm_n_ldR _ _, mm_n_clV _ _ _ (mo_X1_findSides), mm_n_rtV, trivial⟩
theorem mo_X1_lay : mm_Mo f_X1_lay := mm_do_mo (mm_alln_mem mn_X1_lay)
set_option maxRecDepth 10000 in
theorem ok_X1_lay {l : Launch} (hl : l.stackTraces = false) : mm_Ok l yX1_lay cX1_lay 4 none 4 90 tb_X1_lay := by
  refine ⟨mm_alln_mem mn_X1_lay, fun p e cells slots s m args below meth c D tc A S ad Tg X hret hname htab hth => mm_allr_mem ?_⟩
  exact ⟨mm_r_aload_n X (show decode cX1_lay 0 = .ok (.aload_n 0, 1) by decide +kernel) rfl,
    mm_r_iload_n X (show decode cX1_lay 1 = .ok (.iload_n 1, 1) by decide +kernel) rfl,
    mm_r_pfI X (ci := 1) (p := 7) (show mm_kd 1 7 = 0 by decide +kernel) rfl rfl (Nat.le_of_ble_eq_true rfl) (show decode cX1_lay 2 = .ok (.putfield 28, 3) by decide +kernel) mw_86 rfl rfl,
    mm_r_aload_n X (show decode cX1_lay 5 = .ok (.aload_n 0, 1) by decide +kernel) rfl,
    mm_r_iload_n X (show decode cX1_lay 6 = .ok (.iload_n 2, 1) by decide +kernel) rfl,
    mm_r_pfI X (ci := 1) (p := 5) (show mm_kd 1 5 = 0 by decide +kernel) rfl rfl (Nat.le_of_ble_eq_true rfl) (show decode cX1_lay 7 = .ok (.putfield 32, 3) by decide +kernel) mw_84 rfl rfl,
    mm_r_aload_n X (show decode cX1_lay 10 = .ok (.aload_n 0, 1) by decide +kernel) rfl,
    mm_r_iload_n X (show decode cX1_lay 11 = .ok (.iload_n 3, 1) by decide +kernel) rfl,
    mm_r_pfI X (ci := 1) (p := 6) (show mm_kd 1 6 = 0 by decide +kernel) rfl rfl (Nat.le_of_ble_eq_true rfl) (show decode cX1_lay 12 = .ok (.putfield 35, 3) by decide +kernel) mw_85 rfl rfl,
    mm_r_aload_n X (show decode cX1_lay 15 = .ok (.aload_n 0, 1) by decide +kernel) rfl,
    mm_r_aload_n X (show decode cX1_lay 16 = .ok (.aload_n 0, 1) by decide +kernel) rfl,
    mm_r_gfI X (ci := 1) (p := 7) (show mm_kd 1 7 = 0 by decide +kernel) rfl (Nat.le_of_ble_eq_true rfl) (show decode cX1_lay 17 = .ok (.getfield 28, 3) by decide +kernel) mw_86 rfl,
    mm_r_ne1 X (show decode cX1_lay 20 = .ok (.ifCond .ne 7, 3) by decide +kernel) (by decide),
    mm_r_iconst X (show decode cX1_lay 23 = .ok (.iconst 4, 1) by decide +kernel) rfl,
    mm_r_goto X (show decode cX1_lay 24 = .ok (.goto 16, 3) by decide +kernel) (by decide),
    mm_r_aload_n X (show decode cX1_lay 27 = .ok (.aload_n 0, 1) by decide +kernel) rfl,
    mm_r_gfI X (ci := 1) (p := 7) (show mm_kd 1 7 = 0 by decide +kernel) rfl (Nat.le_of_ble_eq_true rfl) (show decode cX1_lay 28 = .ok (.getfield 28, 3) by decide +kernel) mw_86 rfl,
    mm_r_iconst X (show decode cX1_lay 31 = .ok (.iconst 1, 1) by decide +kernel) rfl,
    mm_r_ne2 X (show decode cX1_lay 32 = .ok (.if_icmp .ne 7, 3) by decide +kernel) (by decide),
    mm_r_iconst X (show decode cX1_lay 35 = .ok (.iconst 3, 1) by decide +kernel) rfl,
    mm_r_goto X (show decode cX1_lay 36 = .ok (.goto 4, 3) by decide +kernel) (by decide),
    mm_r_iconst X (show decode cX1_lay 39 = .ok (.iconst 2, 1) by decide +kernel) rfl,
    mm_r_pfI X (ci := 1) (p := 9) (show mm_kd 1 9 = 0 by decide +kernel) rfl rfl (Nat.le_of_ble_eq_true rfl) (show decode cX1_lay 40 = .ok (.putfield 38, 3) by decide +kernel) mw_93 rfl rfl,
    mm_r_aload_n X (show decode cX1_lay 43 = .ok (.aload_n 0, 1) by decide +kernel) rfl,
    mm_r_clV X hth (ci := 1) (na := 0) (sn_X1_numberCells hl) rfl (show decode cX1_lay 44 = .ok (.invokevirtual 41, 3) by decide +kernel) mw_131 mw_128 mw_130 mw_0 mw_45 hd_X1_numberCells ⟨(Nat.le_of_ble_eq_true rfl), (Nat.le_of_ble_eq_true rfl)⟩,
    mm_r_aload_n X (show decode cX1_lay 47 = .ok (.aload_n 0, 1) by decide +kernel) rfl,
    mm_r_lconst X (show decode cX1_lay 48 = .ok (.lconst 1, 1) by decide +kernel) rfl,
    mm_r_aload_n X (show decode cX1_lay 49 = .ok (.aload_n 0, 1) by decide +kernel) rfl,
    mm_r_gfI X (ci := 1) (p := 8) (show mm_kd 1 8 = 0 by decide +kernel) rfl (Nat.le_of_ble_eq_true rfl) (show decode cX1_lay 50 = .ok (.getfield 44, 3) by decide +kernel) mw_89 rfl,
    mm_r_lshl X (show decode cX1_lay 53 = .ok (.lshl, 1) by decide +kernel),
    mm_r_lconst X (show decode cX1_lay 54 = .ok (.lconst 1, 1) by decide +kernel) rfl,
    mm_r_lsub X (show decode cX1_lay 55 = .ok (.lsub, 1) by decide +kernel),
    mm_r_pfJ X (ci := 1) (p := 10) (show mm_kd 1 10 = 1 by decide +kernel) rfl rfl (Nat.le_of_ble_eq_true rfl) (show decode cX1_lay 56 = .ok (.putfield 47, 3) by decide +kernel) mw_95 rfl rfl,
    mm_r_aload_n X (show decode cX1_lay 59 = .ok (.aload_n 0, 1) by decide +kernel) rfl,
    mm_r_clV X hth (ci := 1) (na := 0) (sn_X1_meetNeighbours hl) rfl (show decode cX1_lay 60 = .ok (.invokevirtual 51, 3) by decide +kernel) mw_135 mw_132 mw_134 mw_1 mw_45 hd_X1_meetNeighbours ⟨(Nat.le_of_ble_eq_true rfl), (Nat.le_of_ble_eq_true rfl)⟩,
    mm_r_aload_n X (show decode cX1_lay 63 = .ok (.aload_n 0, 1) by decide +kernel) rfl,
    mm_r_clV X hth (ci := 1) (na := 0) (sn_X1_findSides hl) rfl (show decode cX1_lay 64 = .ok (.invokevirtual 54, 3) by decide +kernel) mw_149 mw_146 mw_148 mw_3 mw_45 hd_X1_findSides ⟨(Nat.le_of_ble_eq_true rfl), (Nat.le_of_ble_eq_true rfl)⟩,
    mm_r_vret X hret (show decode cX1_lay 67 = .ok (.return_, 1) by decide +kernel), trivial⟩
theorem sn_X1_lay {l : Launch} (hl : l.stackTraces = false) : mm_Snd l yX1_lay (.code yX1_lay cX1_lay 4 none) 4 90 f_X1_lay := mm_met hl (plainFor_of_name (by decide +kernel)) (ok_X1_lay hl)
/-! Linkcourt$Play.<init>(LLinkcourt$Board;)V -/
noncomputable def tb_X6_init : List (Nat × mm_I) := [(0, mm_ldR 1 0), (1, mm_obj 4), (4, mm_ldR 5 0), (5, mm_k 7 (.int 37)), (7, mm_nwa 9 0), (9, mm_pfR 12 6 1), (12, mm_ldR 13 0), (13, mm_k 14 (.int (-1))), (14, mm_pfI 17 6 6), (17, mm_ldR 18 0), (18, mm_ldR 19 1), (19, mm_pfR 22 6 0), (22, mm_rtV)]
noncomputable def f_X6_init : mm_F := mm_do (mm_pr tb_X6_init) 2
theorem mn_X6_init : mm_alln tb_X6_init := ⟨mm_n_ldR _ _, mm_n_obj _, mm_n_ldR _ _, mm_n_k _ _, mm_n_nwa _ _, mm_n_pfR _ _ _, mm_n_ldR _ _, mm_n_k _ _, mm_n_pfI _ _ _, mm_n_ldR _ _, mm_n_ldR _ _, mm_n_pfR _ _ _, mm_n_rtV, trivial⟩
theorem mo_X6_init : mm_Mo f_X6_init := mm_do_mo (mm_alln_mem mn_X6_init)
set_option maxRecDepth 10000 in
theorem ok_X6_init {l : Launch} (hl : l.stackTraces = false) : mm_Ok l yX6_init cX6_init 2 none 1 20 tb_X6_init := by
  refine ⟨mm_alln_mem mn_X6_init, fun p e cells slots s m args below meth c D tc A S ad Tg X hret hname htab hth => mm_allr_mem ?_⟩
  exact ⟨mm_r_aload_n X (show decode cX6_init 0 = .ok (.aload_n 0, 1) by decide +kernel) rfl,
    mm_r_obj X (show decode cX6_init 1 = .ok (.invokespecial 3, 3) by decide +kernel) mw_167 mw_71 mw_72 (Nat.le_of_ble_eq_true rfl) (Nat.le_of_ble_eq_true rfl),
    mm_r_aload_n X (show decode cX6_init 4 = .ok (.aload_n 0, 1) by decide +kernel) rfl,
    mm_r_bipush X (show decode cX6_init 5 = .ok (.bipush 37, 2) by decide +kernel) rfl,
    mm_r_nwa X (t := 0) (Nat.le_of_ble_eq_true rfl) rfl (show decode cX6_init 7 = .ok (.newarray .int, 2) by decide +kernel) mw_122,
    mm_r_pfR X (ci := 6) (p := 1) (show mm_kd 6 1 = 2 by decide +kernel) (Or.inl ⟨_, rfl⟩) hname rfl rfl (Nat.le_of_ble_eq_true rfl) (show decode cX6_init 9 = .ok (.putfield 9, 3) by decide +kernel) mw_169 rfl rfl,
    mm_r_aload_n X (show decode cX6_init 12 = .ok (.aload_n 0, 1) by decide +kernel) rfl,
    mm_r_iconst X (show decode cX6_init 13 = .ok (.iconst (-1), 1) by decide +kernel) rfl,
    mm_r_pfI X (ci := 6) (p := 6) (show mm_kd 6 6 = 0 by decide +kernel) rfl rfl (Nat.le_of_ble_eq_true rfl) (show decode cX6_init 14 = .ok (.putfield 15, 3) by decide +kernel) mw_178 rfl rfl,
    mm_r_aload_n X (show decode cX6_init 17 = .ok (.aload_n 0, 1) by decide +kernel) rfl,
    mm_r_aload_n X (show decode cX6_init 18 = .ok (.aload_n 1, 1) by decide +kernel) rfl,
    mm_r_pfR X (ci := 6) (p := 0) (show mm_kd 6 0 = 2 by decide +kernel) (Or.inr ⟨_, rfl⟩) hname rfl rfl (Nat.le_of_ble_eq_true rfl) (show decode cX6_init 19 = .ok (.putfield 19, 3) by decide +kernel) mw_168 rfl rfl,
    mm_r_vret X hret (show decode cX6_init 22 = .ok (.return_, 1) by decide +kernel), trivial⟩
theorem sn_X6_init {l : Launch} (hl : l.stackTraces = false) : mm_Snd l yX6_init (.code yX6_init cX6_init 2 none) 1 20 f_X6_init := mm_met hl (plainFor_of_name (by decide +kernel)) (ok_X6_init hl)
/-! Linkcourt$Play.firstKept(I)I -/
noncomputable def tb_X6_firstKept : List (Nat × mm_I) := [(0, mm_ldR 1 0), (1, mm_gfI 4 6 3), (4, mm_eq1 16 7), (7, mm_ldI 8 1), (8, mm_k 9 (.int 1)), (9, mm_le2 16 12), (12, mm_k 13 (.int 1)), (13, mm_go 17), (16, mm_k 17 (.int 0)), (17, mm_rtI)]
noncomputable def f_X6_firstKept : mm_F := mm_do (mm_pr tb_X6_firstKept) 2
theorem mn_X6_firstKept : mm_alln tb_X6_firstKept := ⟨mm_n_ldR _ _, mm_n_gfI _ _ _, mm_n_eq1 _ _, mm_n_ldI _ _, mm_n_k _ _, mm_n_le2 _ _, mm_n_k _ _, mm_n_go _, mm_n_k _ _, mm_n_rtI, trivial⟩
theorem mo_X6_firstKept : mm_Mo f_X6_firstKept := mm_do_mo (mm_alln_mem mn_X6_firstKept)
set_option maxRecDepth 10000 in
theorem ok_X6_firstKept {l : Launch} (hl : l.stackTraces = false) : mm_Ok l yX6_firstKept cX6_firstKept 2 (some .int) 1 20 tb_X6_firstKept := by
  refine ⟨mm_alln_mem mn_X6_firstKept, fun p e cells slots s m args below meth c D tc A S ad Tg X hret hname htab hth => mm_allr_mem ?_⟩
  exact ⟨mm_r_aload_n X (show decode cX6_firstKept 0 = .ok (.aload_n 0, 1) by decide +kernel) rfl,
    mm_r_gfI X (ci := 6) (p := 3) (show mm_kd 6 3 = 0 by decide +kernel) rfl (Nat.le_of_ble_eq_true rfl) (show decode cX6_firstKept 1 = .ok (.getfield 26, 3) by decide +kernel) mw_172 rfl,
    mm_r_eq1 X (show decode cX6_firstKept 4 = .ok (.ifCond .eq 12, 3) by decide +kernel) (by decide),
    mm_r_iload_n X (show decode cX6_firstKept 7 = .ok (.iload_n 1, 1) by decide +kernel) rfl,
    mm_r_iconst X (show decode cX6_firstKept 8 = .ok (.iconst 1, 1) by decide +kernel) rfl,
    mm_r_le2 X (show decode cX6_firstKept 9 = .ok (.if_icmp .le 7, 3) by decide +kernel) (by decide),
    mm_r_iconst X (show decode cX6_firstKept 12 = .ok (.iconst 1, 1) by decide +kernel) rfl,
    mm_r_goto X (show decode cX6_firstKept 13 = .ok (.goto 4, 3) by decide +kernel) (by decide),
    mm_r_iconst X (show decode cX6_firstKept 16 = .ok (.iconst 0, 1) by decide +kernel) rfl,
    mm_r_iret X hret (show decode cX6_firstKept 17 = .ok (.ireturn, 1) by decide +kernel), trivial⟩
theorem sn_X6_firstKept {l : Launch} (hl : l.stackTraces = false) : mm_Snd l yX6_firstKept (.code yX6_firstKept cX6_firstKept 2 (some .int)) 1 20 f_X6_firstKept := mm_met hl (plainFor_of_name (by decide +kernel)) (ok_X6_firstKept hl)
/-! Linkcourt$Play.stonesAhead(II)J -/
noncomputable def tb_X6_stonesAhead : List (Nat × mm_I) := [(0, mm_k 1 (.long 0)), (1, mm_stJ 2 3), (2, mm_ldR 3 0), (3, mm_ldI 4 1), (4, mm_clV 7 6 1 f_X6_firstKept), (7, mm_stI 9 5), (9, mm_ldI 11 5), (11, mm_ldI 12 1), (12, mm_ge2 55 15), (15, mm_ldI 17 5), (17, mm_ldR 18 0), (18, mm_gfR 21 6 1), (21, mm_aln 22 0), (22, mm_ge2 55 25), (25, mm_ldJ 26 3), (26, mm_ldI 28 5), (28, mm_k 29 (.int 1)), (29, mm_i2 30 (fun a b => a &&& b)), (30, mm_ldI 31 2), (31, mm_ne2 46 34), (34, mm_k 35 (.long 1)), (35, mm_ldR 36 0), (36, mm_gfR 39 6 1), (39, mm_ldI 41 5), (41, mm_ald 42 0), (42, mm_ls 43 (fun a b => a <<< (b.toInt64 &&& 63))), (43, mm_go 47), (46, mm_k 47 (.long 0)), (47, mm_l2 48 (fun a b => a ||| b)), (48, mm_stJ 49 3), (49, mm_inc 52 5 1), (52, mm_go 9), (55, mm_ldJ 56 3), (56, mm_rtJ)]
noncomputable def f_X6_stonesAhead : mm_F := mm_do (mm_pr tb_X6_stonesAhead) 6
theorem mn_X6_stonesAhead : mm_alln tb_X6_stonesAhead := ⟨mm_n_k _ _, mm_n_stJ _ _, mm_n_ldR _ _, mm_n_ldI _ _, mm_n_clV _ _ _ (mo_X6_firstKept), mm_n_stI _ _, mm_n_ldI _ _, mm_n_ldI _ _, mm_n_ge2 _ _, mm_n_ldI _ _, mm_n_ldR _ _, mm_n_gfR _ _ _, mm_n_aln _ _, mm_n_ge2 _ _, mm_n_ldJ _ _, mm_n_ldI _ _, mm_n_k _ _, mm_n_i2 _ _, mm_n_ldI _ _, mm_n_ne2 _ _, mm_n_k _ _, mm_n_ldR _ _, mm_n_gfR _ _ _, mm_n_ldI _ _, mm_n_ald _ _, mm_n_ls _ _, mm_n_go _, mm_n_k _ _, mm_n_l2 _ _, mm_n_stJ _ _, mm_n_inc _ _ _, mm_n_go _, mm_n_ldJ _ _, mm_n_rtJ, trivial⟩
theorem mo_X6_stonesAhead : mm_Mo f_X6_stonesAhead := mm_do_mo (mm_alln_mem mn_X6_stonesAhead)
set_option maxRecDepth 10000 in
theorem ok_X6_stonesAhead {l : Launch} (hl : l.stackTraces = false) : mm_Ok l yX6_stonesAhead cX6_stonesAhead 6 (some .long) 2 41 tb_X6_stonesAhead := by
  refine ⟨mm_alln_mem mn_X6_stonesAhead, fun p e cells slots s m args below meth c D tc A S ad Tg X hret hname htab hth => mm_allr_mem ?_⟩
  exact ⟨mm_r_lconst X (show decode cX6_stonesAhead 0 = .ok (.lconst 0, 1) by decide +kernel) rfl,
    mm_r_lstore_n X (show decode cX6_stonesAhead 1 = .ok (.lstore_n 3, 1) by decide +kernel) rfl (Nat.le_of_ble_eq_true rfl),
    mm_r_aload_n X (show decode cX6_stonesAhead 2 = .ok (.aload_n 0, 1) by decide +kernel) rfl,
    mm_r_iload_n X (show decode cX6_stonesAhead 3 = .ok (.iload_n 1, 1) by decide +kernel) rfl,
    mm_r_clV X hth (ci := 6) (na := 1) (sn_X6_firstKept hl) rfl (show decode cX6_stonesAhead 4 = .ok (.invokevirtual 58, 3) by decide +kernel) mw_210 mw_207 mw_209 mw_6 mw_46 hd_X6_firstKept ⟨(Nat.le_of_ble_eq_true rfl), (Nat.le_of_ble_eq_true rfl)⟩,
    mm_r_istore X (show decode cX6_stonesAhead 7 = .ok (.istore 5, 2) by decide +kernel) (Nat.le_of_ble_eq_true rfl),
    mm_r_iload X (show decode cX6_stonesAhead 9 = .ok (.iload 5, 2) by decide +kernel),
    mm_r_iload_n X (show decode cX6_stonesAhead 11 = .ok (.iload_n 1, 1) by decide +kernel) rfl,
    mm_r_ge2 X (show decode cX6_stonesAhead 12 = .ok (.if_icmp .ge 43, 3) by decide +kernel) (by decide),
    mm_r_iload X (show decode cX6_stonesAhead 15 = .ok (.iload 5, 2) by decide +kernel),
    mm_r_aload_n X (show decode cX6_stonesAhead 17 = .ok (.aload_n 0, 1) by decide +kernel) rfl,
    mm_r_gfR X (ci := 6) (p := 1) (show mm_kd 6 1 = 2 by decide +kernel) rfl (Nat.le_of_ble_eq_true rfl) (show decode cX6_stonesAhead 18 = .ok (.getfield 9, 3) by decide +kernel) mw_169 rfl,
    mm_r_aln X (t := 0) (Nat.le_of_ble_eq_true rfl) (show decode cX6_stonesAhead 21 = .ok (.arraylength, 1) by decide +kernel),
    mm_r_ge2 X (show decode cX6_stonesAhead 22 = .ok (.if_icmp .ge 33, 3) by decide +kernel) (by decide),
    mm_r_lload_n X (show decode cX6_stonesAhead 25 = .ok (.lload_n 3, 1) by decide +kernel) rfl,
    mm_r_iload X (show decode cX6_stonesAhead 26 = .ok (.iload 5, 2) by decide +kernel),
    mm_r_iconst X (show decode cX6_stonesAhead 28 = .ok (.iconst 1, 1) by decide +kernel) rfl,
    mm_r_iand X (show decode cX6_stonesAhead 29 = .ok (.iand, 1) by decide +kernel),
    mm_r_iload_n X (show decode cX6_stonesAhead 30 = .ok (.iload_n 2, 1) by decide +kernel) rfl,
    mm_r_ne2 X (show decode cX6_stonesAhead 31 = .ok (.if_icmp .ne 15, 3) by decide +kernel) (by decide),
    mm_r_lconst X (show decode cX6_stonesAhead 34 = .ok (.lconst 1, 1) by decide +kernel) rfl,
    mm_r_aload_n X (show decode cX6_stonesAhead 35 = .ok (.aload_n 0, 1) by decide +kernel) rfl,
    mm_r_gfR X (ci := 6) (p := 1) (show mm_kd 6 1 = 2 by decide +kernel) rfl (Nat.le_of_ble_eq_true rfl) (show decode cX6_stonesAhead 36 = .ok (.getfield 9, 3) by decide +kernel) mw_169 rfl,
    mm_r_iload X (show decode cX6_stonesAhead 39 = .ok (.iload 5, 2) by decide +kernel),
    mm_r_iald X (show decode cX6_stonesAhead 41 = .ok (.iaload, 1) by decide +kernel),
    mm_r_lshl X (show decode cX6_stonesAhead 42 = .ok (.lshl, 1) by decide +kernel),
    mm_r_goto X (show decode cX6_stonesAhead 43 = .ok (.goto 4, 3) by decide +kernel) (by decide),
    mm_r_lconst X (show decode cX6_stonesAhead 46 = .ok (.lconst 0, 1) by decide +kernel) rfl,
    mm_r_lor X (show decode cX6_stonesAhead 47 = .ok (.lor, 1) by decide +kernel),
    mm_r_lstore_n X (show decode cX6_stonesAhead 48 = .ok (.lstore_n 3, 1) by decide +kernel) rfl (Nat.le_of_ble_eq_true rfl),
    mm_r_iinc X (show decode cX6_stonesAhead 49 = .ok (.iinc 5 1, 3) by decide +kernel) rfl (Nat.le_of_ble_eq_true rfl),
    mm_r_goto X (show decode cX6_stonesAhead 52 = .ok (.goto (-43), 3) by decide +kernel) (by decide),
    mm_r_lload_n X (show decode cX6_stonesAhead 55 = .ok (.lload_n 3, 1) by decide +kernel) rfl,
    mm_r_lret X hret (show decode cX6_stonesAhead 56 = .ok (.lreturn, 1) by decide +kernel), trivial⟩
theorem sn_X6_stonesAhead {l : Launch} (hl : l.stackTraces = false) : mm_Snd l yX6_stonesAhead (.code yX6_stonesAhead cX6_stonesAhead 6 (some .long)) 2 41 f_X6_stonesAhead := mm_met hl (plainFor_of_name (by decide +kernel)) (ok_X6_stonesAhead hl)
/-! Linkcourt$Board.side(I)J -/
noncomputable def tb_X1_side : List (Nat × mm_I) := [(0, mm_ldI 1 1), (1, mm_lt1 18 4), (4, mm_ldI 5 1), (5, mm_k 6 (.int 4)), (6, mm_ge2 18 9), (9, mm_ldR 10 0), (10, mm_gfR 13 1 4), (13, mm_ldI 14 1), (14, mm_aldJ 15), (15, mm_go 19), (18, mm_k 19 (.long 0)), (19, mm_rtJ)]
noncomputable def f_X1_side : mm_F := mm_do (mm_pr tb_X1_side) 2
theorem mn_X1_side : mm_alln tb_X1_side := ⟨mm_n_ldI _ _, mm_n_lt1 _ _, mm_n_ldI _ _, mm_n_k _ _, mm_n_ge2 _ _, mm_n_ldR _ _, mm_n_gfR _ _ _, mm_n_ldI _ _, mm_n_aldJ _, mm_n_go _, mm_n_k _ _, mm_n_rtJ, trivial⟩
theorem mo_X1_side : mm_Mo f_X1_side := mm_do_mo (mm_alln_mem mn_X1_side)
set_option maxRecDepth 10000 in
theorem ok_X1_side {l : Launch} (hl : l.stackTraces = false) : mm_Ok l yX1_side cX1_side 2 (some .long) 1 20 tb_X1_side := by
  refine ⟨mm_alln_mem mn_X1_side, fun p e cells slots s m args below meth c D tc A S ad Tg X hret hname htab hth => mm_allr_mem ?_⟩
  exact ⟨mm_r_iload_n X (show decode cX1_side 0 = .ok (.iload_n 1, 1) by decide +kernel) rfl,
    mm_r_lt1 X (show decode cX1_side 1 = .ok (.ifCond .lt 17, 3) by decide +kernel) (by decide),
    mm_r_iload_n X (show decode cX1_side 4 = .ok (.iload_n 1, 1) by decide +kernel) rfl,
    mm_r_iconst X (show decode cX1_side 5 = .ok (.iconst 4, 1) by decide +kernel) rfl,
    mm_r_ge2 X (show decode cX1_side 6 = .ok (.if_icmp .ge 12, 3) by decide +kernel) (by decide),
    mm_r_aload_n X (show decode cX1_side 9 = .ok (.aload_n 0, 1) by decide +kernel) rfl,
    mm_r_gfR X (ci := 1) (p := 4) (show mm_kd 1 4 = 2 by decide +kernel) rfl (Nat.le_of_ble_eq_true rfl) (show decode cX1_side 10 = .ok (.getfield 25, 3) by decide +kernel) mw_83 rfl,
    mm_r_iload_n X (show decode cX1_side 13 = .ok (.iload_n 1, 1) by decide +kernel) rfl,
    mm_r_lald X (show decode cX1_side 14 = .ok (.laload, 1) by decide +kernel),
    mm_r_goto X (show decode cX1_side 15 = .ok (.goto 4, 3) by decide +kernel) (by decide),
    mm_r_lconst X (show decode cX1_side 18 = .ok (.lconst 0, 1) by decide +kernel) rfl,
    mm_r_lret X hret (show decode cX1_side 19 = .ok (.lreturn, 1) by decide +kernel), trivial⟩
theorem sn_X1_side {l : Launch} (hl : l.stackTraces = false) : mm_Snd l yX1_side (.code yX1_side cX1_side 2 (some .long)) 1 20 f_X1_side := mm_met hl (plainFor_of_name (by decide +kernel)) (ok_X1_side hl)
/-! Linkcourt$Board.reach(JJ)J -/
noncomputable def tb_X1_reach : List (Nat × mm_I) := [(0, mm_ldJ 1 1), (1, mm_ldJ 2 3), (2, mm_l2 3 (fun a b => a &&& b)), (3, mm_ldR 4 0), (4, mm_gfJ 7 1 10), (7, mm_l2 8 (fun a b => a &&& b)), (8, mm_stJ 10 5), (10, mm_ldJ 12 5), (12, mm_stJ 14 7), (14, mm_k 15 (.int 0)), (15, mm_stI 17 9), (17, mm_ldI 19 9), (19, mm_k 21 (.int 36)), (21, mm_ge2 98 24), (24, mm_ldJ 26 7), (26, mm_k 27 (.long 0)), (27, mm_cmp 28), (28, mm_eq1 98 31), (31, mm_ldJ 33 7), (33, mm_ldJ 35 7), (35, mm_l1 36 (fun a => -a)), (36, mm_l2 37 (fun a b => a &&& b)), (37, mm_k 38 (.long 1)), (38, mm_l2 39 (fun a b => a - b)), (39, mm_clS 42 1 f_J13_bitCount_95d88), (42, mm_stI 44 10), (44, mm_ldI 46 10), (46, mm_k 48 (.int 36)), (48, mm_ge2 70 51), (51, mm_ldR 52 0), (52, mm_gfR 55 1 3), (55, mm_ldI 57 10), (57, mm_aldJ 58), (58, mm_ldJ 59 3), (59, mm_l2 60 (fun a b => a &&& b)), (60, mm_ldJ 62 5), (62, mm_k 65 (.long (-1))), (65, mm_l2 66 (fun a b => a ^^^ b)), (66, mm_l2 67 (fun a b => a &&& b)), (67, mm_go 71), (70, mm_k 71 (.long 0)), (71, mm_stJ 73 11), (73, mm_ldJ 75 5), (75, mm_ldJ 77 11), (77, mm_l2 78 (fun a b => a ||| b)), (78, mm_stJ 80 5), (80, mm_ldJ 82 7), (82, mm_ldJ 84 7), (84, mm_k 85 (.long 1)), (85, mm_l2 86 (fun a b => a - b)), (86, mm_l2 87 (fun a b => a &&& b)), (87, mm_ldJ 89 11), (89, mm_l2 90 (fun a b => a ||| b)), (90, mm_stJ 92 7), (92, mm_inc 95 9 1), (95, mm_go 17), (98, mm_ldJ 100 5), (100, mm_rtJ)]
noncomputable def f_X1_reach : mm_F := mm_do (mm_pr tb_X1_reach) 13
theorem mn_X1_reach : mm_alln tb_X1_reach := ⟨mm_n_ldJ _ _, mm_n_ldJ _ _, mm_n_l2 _ _, mm_n_ldR _ _, mm_n_gfJ _ _ _, mm_n_l2 _ _, mm_n_stJ _ _, mm_n_ldJ _ _, mm_n_stJ _ _, mm_n_k _ _, mm_n_stI _ _, mm_n_ldI _ _, mm_n_k _ _, mm_n_ge2 _ _, mm_n_ldJ _ _, mm_n_k _ _, mm_n_cmp _, mm_n_eq1 _ _, mm_n_ldJ _ _, mm_n_ldJ _ _, mm_n_l1 _ _, mm_n_l2 _ _, mm_n_k _ _, mm_n_l2 _ _, mm_n_clS _ _ (mo_J13_bitCount_95d88), mm_n_stI _ _, mm_n_ldI _ _, mm_n_k _ _, mm_n_ge2 _ _, mm_n_ldR _ _, mm_n_gfR _ _ _, mm_n_ldI _ _, mm_n_aldJ _, mm_n_ldJ _ _, mm_n_l2 _ _, mm_n_ldJ _ _, mm_n_k _ _, mm_n_l2 _ _, mm_n_l2 _ _, mm_n_go _, mm_n_k _ _, mm_n_stJ _ _, mm_n_ldJ _ _, mm_n_ldJ _ _, mm_n_l2 _ _, mm_n_stJ _ _, mm_n_ldJ _ _, mm_n_ldJ _ _, mm_n_k _ _, mm_n_l2 _ _, mm_n_l2 _ _, mm_n_ldJ _ _, mm_n_l2 _ _, mm_n_stJ _ _, mm_n_inc _ _ _, mm_n_go _, mm_n_ldJ _ _, mm_n_rtJ, trivial⟩
theorem mo_X1_reach : mm_Mo f_X1_reach := mm_do_mo (mm_alln_mem mn_X1_reach)
set_option maxRecDepth 10000 in
theorem ok_X1_reach {l : Launch} (hl : l.stackTraces = false) : mm_Ok l yX1_reach cX1_reach 13 (some .long) 2 41 tb_X1_reach := by
  refine ⟨mm_alln_mem mn_X1_reach, fun p e cells slots s m args below meth c D tc A S ad Tg X hret hname htab hth => mm_allr_mem ?_⟩
  exact ⟨mm_r_lload_n X (show decode cX1_reach 0 = .ok (.lload_n 1, 1) by decide +kernel) rfl,
    mm_r_lload_n X (show decode cX1_reach 1 = .ok (.lload_n 3, 1) by decide +kernel) rfl,
    mm_r_land X (show decode cX1_reach 2 = .ok (.land, 1) by decide +kernel),
    mm_r_aload_n X (show decode cX1_reach 3 = .ok (.aload_n 0, 1) by decide +kernel) rfl,
    mm_r_gfJ X (ci := 1) (p := 10) (show mm_kd 1 10 = 1 by decide +kernel) rfl (Nat.le_of_ble_eq_true rfl) (show decode cX1_reach 4 = .ok (.getfield 47, 3) by decide +kernel) mw_95 rfl,
    mm_r_land X (show decode cX1_reach 7 = .ok (.land, 1) by decide +kernel),
    mm_r_lstore X (show decode cX1_reach 8 = .ok (.lstore 5, 2) by decide +kernel) (Nat.le_of_ble_eq_true rfl),
    mm_r_lload X (show decode cX1_reach 10 = .ok (.lload 5, 2) by decide +kernel),
    mm_r_lstore X (show decode cX1_reach 12 = .ok (.lstore 7, 2) by decide +kernel) (Nat.le_of_ble_eq_true rfl),
    mm_r_iconst X (show decode cX1_reach 14 = .ok (.iconst 0, 1) by decide +kernel) rfl,
    mm_r_istore X (show decode cX1_reach 15 = .ok (.istore 9, 2) by decide +kernel) (Nat.le_of_ble_eq_true rfl),
    mm_r_iload X (show decode cX1_reach 17 = .ok (.iload 9, 2) by decide +kernel),
    mm_r_bipush X (show decode cX1_reach 19 = .ok (.bipush 36, 2) by decide +kernel) rfl,
    mm_r_ge2 X (show decode cX1_reach 21 = .ok (.if_icmp .ge 77, 3) by decide +kernel) (by decide),
    mm_r_lload X (show decode cX1_reach 24 = .ok (.lload 7, 2) by decide +kernel),
    mm_r_lconst X (show decode cX1_reach 26 = .ok (.lconst 0, 1) by decide +kernel) rfl,
    mm_r_lcmp X (show decode cX1_reach 27 = .ok (.lcmp, 1) by decide +kernel),
    mm_r_eq1 X (show decode cX1_reach 28 = .ok (.ifCond .eq 70, 3) by decide +kernel) (by decide),
    mm_r_lload X (show decode cX1_reach 31 = .ok (.lload 7, 2) by decide +kernel),
    mm_r_lload X (show decode cX1_reach 33 = .ok (.lload 7, 2) by decide +kernel),
    mm_r_lneg X (show decode cX1_reach 35 = .ok (.lneg, 1) by decide +kernel),
    mm_r_land X (show decode cX1_reach 36 = .ok (.land, 1) by decide +kernel),
    mm_r_lconst X (show decode cX1_reach 37 = .ok (.lconst 1, 1) by decide +kernel) rfl,
    mm_r_lsub X (show decode cX1_reach 38 = .ok (.lsub, 1) by decide +kernel),
    mm_r_clS X hth (na := 1) (sn_J13_bitCount_95d88 hl) (show decode cX1_reach 39 = .ok (.invokestatic 85, 3) by decide +kernel) mw_229 mw_227 mw_228 mw_47 hd_J13_bitCount_95d88.2 ⟨(Nat.le_of_ble_eq_true rfl), (Nat.le_of_ble_eq_true rfl)⟩,
    mm_r_istore X (show decode cX1_reach 42 = .ok (.istore 10, 2) by decide +kernel) (Nat.le_of_ble_eq_true rfl),
    mm_r_iload X (show decode cX1_reach 44 = .ok (.iload 10, 2) by decide +kernel),
    mm_r_bipush X (show decode cX1_reach 46 = .ok (.bipush 36, 2) by decide +kernel) rfl,
    mm_r_ge2 X (show decode cX1_reach 48 = .ok (.if_icmp .ge 22, 3) by decide +kernel) (by decide),
    mm_r_aload_n X (show decode cX1_reach 51 = .ok (.aload_n 0, 1) by decide +kernel) rfl,
    mm_r_gfR X (ci := 1) (p := 3) (show mm_kd 1 3 = 2 by decide +kernel) rfl (Nat.le_of_ble_eq_true rfl) (show decode cX1_reach 52 = .ok (.getfield 21, 3) by decide +kernel) mw_82 rfl,
    mm_r_iload X (show decode cX1_reach 55 = .ok (.iload 10, 2) by decide +kernel),
    mm_r_lald X (show decode cX1_reach 57 = .ok (.laload, 1) by decide +kernel),
    mm_r_lload_n X (show decode cX1_reach 58 = .ok (.lload_n 3, 1) by decide +kernel) rfl,
    mm_r_land X (show decode cX1_reach 59 = .ok (.land, 1) by decide +kernel),
    mm_r_lload X (show decode cX1_reach 60 = .ok (.lload 5, 2) by decide +kernel),
    mm_r_ldc2 X (show decode cX1_reach 62 = .ok (.ldc2_w 91, 3) by decide +kernel) mw_233,
    mm_r_lxor X (show decode cX1_reach 65 = .ok (.lxor, 1) by decide +kernel),
    mm_r_land X (show decode cX1_reach 66 = .ok (.land, 1) by decide +kernel),
    mm_r_goto X (show decode cX1_reach 67 = .ok (.goto 4, 3) by decide +kernel) (by decide),
    mm_r_lconst X (show decode cX1_reach 70 = .ok (.lconst 0, 1) by decide +kernel) rfl,
    mm_r_lstore X (show decode cX1_reach 71 = .ok (.lstore 11, 2) by decide +kernel) (Nat.le_of_ble_eq_true rfl),
    mm_r_lload X (show decode cX1_reach 73 = .ok (.lload 5, 2) by decide +kernel),
    mm_r_lload X (show decode cX1_reach 75 = .ok (.lload 11, 2) by decide +kernel),
    mm_r_lor X (show decode cX1_reach 77 = .ok (.lor, 1) by decide +kernel),
    mm_r_lstore X (show decode cX1_reach 78 = .ok (.lstore 5, 2) by decide +kernel) (Nat.le_of_ble_eq_true rfl),
    mm_r_lload X (show decode cX1_reach 80 = .ok (.lload 7, 2) by decide +kernel),
    mm_r_lload X (show decode cX1_reach 82 = .ok (.lload 7, 2) by decide +kernel),
    mm_r_lconst X (show decode cX1_reach 84 = .ok (.lconst 1, 1) by decide +kernel) rfl,
    mm_r_lsub X (show decode cX1_reach 85 = .ok (.lsub, 1) by decide +kernel),
    mm_r_land X (show decode cX1_reach 86 = .ok (.land, 1) by decide +kernel),
    mm_r_lload X (show decode cX1_reach 87 = .ok (.lload 11, 2) by decide +kernel),
    mm_r_lor X (show decode cX1_reach 89 = .ok (.lor, 1) by decide +kernel),
    mm_r_lstore X (show decode cX1_reach 90 = .ok (.lstore 7, 2) by decide +kernel) (Nat.le_of_ble_eq_true rfl),
    mm_r_iinc X (show decode cX1_reach 92 = .ok (.iinc 9 1, 3) by decide +kernel) rfl (Nat.le_of_ble_eq_true rfl),
    mm_r_goto X (show decode cX1_reach 95 = .ok (.goto (-78), 3) by decide +kernel) (by decide),
    mm_r_lload X (show decode cX1_reach 98 = .ok (.lload 5, 2) by decide +kernel),
    mm_r_lret X hret (show decode cX1_reach 100 = .ok (.lreturn, 1) by decide +kernel), trivial⟩
theorem sn_X1_reach {l : Launch} (hl : l.stackTraces = false) : mm_Snd l yX1_reach (.code yX1_reach cX1_reach 13 (some .long)) 2 41 f_X1_reach := mm_met hl (plainFor_of_name (by decide +kernel)) (ok_X1_reach hl)
/-! Linkcourt$Board.isAtAllSides(J)Z -/
noncomputable def tb_X1_isAtAllSides : List (Nat × mm_I) := [(0, mm_ldJ 1 1), (1, mm_ldR 2 0), (2, mm_k 3 (.int 0)), (3, mm_clV 6 1 1 f_X1_side), (6, mm_l2 7 (fun a b => a &&& b)), (7, mm_stJ 8 3), (8, mm_k 9 (.int 0)), (9, mm_stI 11 5), (11, mm_ldI 13 5), (13, mm_k 15 (.int 36)), (15, mm_ge2 78 18), (18, mm_ldJ 19 3), (19, mm_k 20 (.long 0)), (20, mm_cmp 21), (21, mm_eq1 78 24), (24, mm_ldR 25 0), (25, mm_ldJ 26 3), (26, mm_ldJ 27 3), (27, mm_l1 28 (fun a => -a)), (28, mm_l2 29 (fun a b => a &&& b)), (29, mm_ldJ 30 1), (30, mm_clV 33 1 2 f_X1_reach), (33, mm_stJ 35 6), (35, mm_ldJ 37 6), (37, mm_ldR 38 0), (38, mm_k 39 (.int 1)), (39, mm_clV 42 1 1 f_X1_side), (42, mm_l2 43 (fun a b => a &&& b)), (43, mm_k 44 (.long 0)), (44, mm_cmp 45), (45, mm_eq1 63 48), (48, mm_ldJ 50 6), (50, mm_ldR 51 0), (51, mm_k 52 (.int 2)), (52, mm_clV 55 1 1 f_X1_side), (55, mm_l2 56 (fun a b => a &&& b)), (56, mm_k 57 (.long 0)), (57, mm_cmp 58), (58, mm_eq1 63 61), (61, mm_k 62 (.int 1)), (62, mm_rtZ), (63, mm_ldJ 64 3), (64, mm_ldJ 66 6), (66, mm_k 69 (.long (-1))), (69, mm_l2 70 (fun a b => a ^^^ b)), (70, mm_l2 71 (fun a b => a &&& b)), (71, mm_stJ 72 3), (72, mm_inc 75 5 1), (75, mm_go 11), (78, mm_k 79 (.int 0)), (79, mm_rtZ)]
noncomputable def f_X1_isAtAllSides : mm_F := mm_do (mm_pr tb_X1_isAtAllSides) 8
theorem mn_X1_isAtAllSides : mm_alln tb_X1_isAtAllSides := ⟨mm_n_ldJ _ _, mm_n_ldR _ _, mm_n_k _ _, mm_n_clV _ _ _ (mo_X1_side), mm_n_l2 _ _, mm_n_stJ _ _, mm_n_k _ _, mm_n_stI _ _, mm_n_ldI _ _, mm_n_k _ _, mm_n_ge2 _ _, mm_n_ldJ _ _, mm_n_k _ _, mm_n_cmp _, mm_n_eq1 _ _, mm_n_ldR _ _, mm_n_ldJ _ _, mm_n_ldJ _ _, mm_n_l1 _ _, mm_n_l2 _ _, mm_n_ldJ _ _, mm_n_clV _ _ _ (mo_X1_reach), mm_n_stJ _ _, mm_n_ldJ _ _, mm_n_ldR _ _, mm_n_k _ _, mm_n_clV _ _ _ (mo_X1_side), mm_n_l2 _ _, mm_n_k _ _, mm_n_cmp _, mm_n_eq1 _ _, mm_n_ldJ _ _, mm_n_ldR _ _, mm_n_k _ _, mm_n_clV _ _ _ (mo_X1_side), mm_n_l2 _ _, mm_n_k _ _, mm_n_cmp _, mm_n_eq1 _ _, mm_n_k _ _, mm_n_rtZ, mm_n_ldJ _ _, mm_n_ldJ _ _, mm_n_k _ _, mm_n_l2 _ _, mm_n_l2 _ _, mm_n_stJ _ _, mm_n_inc _ _ _, mm_n_go _, mm_n_k _ _, mm_n_rtZ, trivial⟩
theorem mo_X1_isAtAllSides : mm_Mo f_X1_isAtAllSides := mm_do_mo (mm_alln_mem mn_X1_isAtAllSides)
set_option maxRecDepth 10000 in
theorem ok_X1_isAtAllSides {l : Launch} (hl : l.stackTraces = false) : mm_Ok l yX1_isAtAllSides cX1_isAtAllSides 8 (some .boolean) 3 73 tb_X1_isAtAllSides := by
  refine ⟨mm_alln_mem mn_X1_isAtAllSides, fun p e cells slots s m args below meth c D tc A S ad Tg X hret hname htab hth => mm_allr_mem ?_⟩
  exact ⟨mm_r_lload_n X (show decode cX1_isAtAllSides 0 = .ok (.lload_n 1, 1) by decide +kernel) rfl,
    mm_r_aload_n X (show decode cX1_isAtAllSides 1 = .ok (.aload_n 0, 1) by decide +kernel) rfl,
    mm_r_iconst X (show decode cX1_isAtAllSides 2 = .ok (.iconst 0, 1) by decide +kernel) rfl,
    mm_r_clV X hth (ci := 1) (na := 1) (sn_X1_side hl) rfl (show decode cX1_isAtAllSides 3 = .ok (.invokevirtual 97, 3) by decide +kernel) mw_222 mw_219 mw_220 mw_221 mw_45 hd_X1_side ⟨(Nat.le_of_ble_eq_true rfl), (Nat.le_of_ble_eq_true rfl)⟩,
    mm_r_land X (show decode cX1_isAtAllSides 6 = .ok (.land, 1) by decide +kernel),
    mm_r_lstore_n X (show decode cX1_isAtAllSides 7 = .ok (.lstore_n 3, 1) by decide +kernel) rfl (Nat.le_of_ble_eq_true rfl),
    mm_r_iconst X (show decode cX1_isAtAllSides 8 = .ok (.iconst 0, 1) by decide +kernel) rfl,
    mm_r_istore X (show decode cX1_isAtAllSides 9 = .ok (.istore 5, 2) by decide +kernel) (Nat.le_of_ble_eq_true rfl),
    mm_r_iload X (show decode cX1_isAtAllSides 11 = .ok (.iload 5, 2) by decide +kernel),
    mm_r_bipush X (show decode cX1_isAtAllSides 13 = .ok (.bipush 36, 2) by decide +kernel) rfl,
    mm_r_ge2 X (show decode cX1_isAtAllSides 15 = .ok (.if_icmp .ge 63, 3) by decide +kernel) (by decide),
    mm_r_lload_n X (show decode cX1_isAtAllSides 18 = .ok (.lload_n 3, 1) by decide +kernel) rfl,
    mm_r_lconst X (show decode cX1_isAtAllSides 19 = .ok (.lconst 0, 1) by decide +kernel) rfl,
    mm_r_lcmp X (show decode cX1_isAtAllSides 20 = .ok (.lcmp, 1) by decide +kernel),
    mm_r_eq1 X (show decode cX1_isAtAllSides 21 = .ok (.ifCond .eq 57, 3) by decide +kernel) (by decide),
    mm_r_aload_n X (show decode cX1_isAtAllSides 24 = .ok (.aload_n 0, 1) by decide +kernel) rfl,
    mm_r_lload_n X (show decode cX1_isAtAllSides 25 = .ok (.lload_n 3, 1) by decide +kernel) rfl,
    mm_r_lload_n X (show decode cX1_isAtAllSides 26 = .ok (.lload_n 3, 1) by decide +kernel) rfl,
    mm_r_lneg X (show decode cX1_isAtAllSides 27 = .ok (.lneg, 1) by decide +kernel),
    mm_r_land X (show decode cX1_isAtAllSides 28 = .ok (.land, 1) by decide +kernel),
    mm_r_lload_n X (show decode cX1_isAtAllSides 29 = .ok (.lload_n 1, 1) by decide +kernel) rfl,
    mm_r_clV X hth (ci := 1) (na := 2) (sn_X1_reach hl) rfl (show decode cX1_isAtAllSides 30 = .ok (.invokevirtual 93, 3) by decide +kernel) mw_226 mw_223 mw_224 mw_225 mw_45 hd_X1_reach ⟨(Nat.le_of_ble_eq_true rfl), (Nat.le_of_ble_eq_true rfl)⟩,
    mm_r_lstore X (show decode cX1_isAtAllSides 33 = .ok (.lstore 6, 2) by decide +kernel) (Nat.le_of_ble_eq_true rfl),
    mm_r_lload X (show decode cX1_isAtAllSides 35 = .ok (.lload 6, 2) by decide +kernel),
    mm_r_aload_n X (show decode cX1_isAtAllSides 37 = .ok (.aload_n 0, 1) by decide +kernel) rfl,
    mm_r_iconst X (show decode cX1_isAtAllSides 38 = .ok (.iconst 1, 1) by decide +kernel) rfl,
    mm_r_clV X hth (ci := 1) (na := 1) (sn_X1_side hl) rfl (show decode cX1_isAtAllSides 39 = .ok (.invokevirtual 97, 3) by decide +kernel) mw_222 mw_219 mw_220 mw_221 mw_45 hd_X1_side ⟨(Nat.le_of_ble_eq_true rfl), (Nat.le_of_ble_eq_true rfl)⟩,
    mm_r_land X (show decode cX1_isAtAllSides 42 = .ok (.land, 1) by decide +kernel),
    mm_r_lconst X (show decode cX1_isAtAllSides 43 = .ok (.lconst 0, 1) by decide +kernel) rfl,
    mm_r_lcmp X (show decode cX1_isAtAllSides 44 = .ok (.lcmp, 1) by decide +kernel),
    mm_r_eq1 X (show decode cX1_isAtAllSides 45 = .ok (.ifCond .eq 18, 3) by decide +kernel) (by decide),
    mm_r_lload X (show decode cX1_isAtAllSides 48 = .ok (.lload 6, 2) by decide +kernel),
    mm_r_aload_n X (show decode cX1_isAtAllSides 50 = .ok (.aload_n 0, 1) by decide +kernel) rfl,
    mm_r_iconst X (show decode cX1_isAtAllSides 51 = .ok (.iconst 2, 1) by decide +kernel) rfl,
    mm_r_clV X hth (ci := 1) (na := 1) (sn_X1_side hl) rfl (show decode cX1_isAtAllSides 52 = .ok (.invokevirtual 97, 3) by decide +kernel) mw_222 mw_219 mw_220 mw_221 mw_45 hd_X1_side ⟨(Nat.le_of_ble_eq_true rfl), (Nat.le_of_ble_eq_true rfl)⟩,
    mm_r_land X (show decode cX1_isAtAllSides 55 = .ok (.land, 1) by decide +kernel),
    mm_r_lconst X (show decode cX1_isAtAllSides 56 = .ok (.lconst 0, 1) by decide +kernel) rfl,
    mm_r_lcmp X (show decode cX1_isAtAllSides 57 = .ok (.lcmp, 1) by decide +kernel),
    mm_r_eq1 X (show decode cX1_isAtAllSides 58 = .ok (.ifCond .eq 5, 3) by decide +kernel) (by decide),
    mm_r_iconst X (show decode cX1_isAtAllSides 61 = .ok (.iconst 1, 1) by decide +kernel) rfl,
    mm_r_zret X hret (show decode cX1_isAtAllSides 62 = .ok (.ireturn, 1) by decide +kernel),
    mm_r_lload_n X (show decode cX1_isAtAllSides 63 = .ok (.lload_n 3, 1) by decide +kernel) rfl,
    mm_r_lload X (show decode cX1_isAtAllSides 64 = .ok (.lload 6, 2) by decide +kernel),
    mm_r_ldc2 X (show decode cX1_isAtAllSides 66 = .ok (.ldc2_w 91, 3) by decide +kernel) mw_233,
    mm_r_lxor X (show decode cX1_isAtAllSides 69 = .ok (.lxor, 1) by decide +kernel),
    mm_r_land X (show decode cX1_isAtAllSides 70 = .ok (.land, 1) by decide +kernel),
    mm_r_lstore_n X (show decode cX1_isAtAllSides 71 = .ok (.lstore_n 3, 1) by decide +kernel) rfl (Nat.le_of_ble_eq_true rfl),
    mm_r_iinc X (show decode cX1_isAtAllSides 72 = .ok (.iinc 5 1, 3) by decide +kernel) rfl (Nat.le_of_ble_eq_true rfl),
    mm_r_goto X (show decode cX1_isAtAllSides 75 = .ok (.goto (-64), 3) by decide +kernel) (by decide),
    mm_r_iconst X (show decode cX1_isAtAllSides 78 = .ok (.iconst 0, 1) by decide +kernel) rfl,
    mm_r_zret X hret (show decode cX1_isAtAllSides 79 = .ok (.ireturn, 1) by decide +kernel), trivial⟩
theorem sn_X1_isAtAllSides {l : Launch} (hl : l.stackTraces = false) : mm_Snd l yX1_isAtAllSides (.code yX1_isAtAllSides cX1_isAtAllSides 8 (some .boolean)) 3 73 f_X1_isAtAllSides := mm_met hl (plainFor_of_name (by decide +kernel)) (ok_X1_isAtAllSides hl)
/-! Linkcourt$Board.leads(IIJ)Z -/
noncomputable def tb_X1_leads : List (Nat × mm_I) := [(0, mm_ldR 1 0), (1, mm_ldR 2 0), (2, mm_ldI 3 1), (3, mm_clV 6 1 1 f_X1_side), (6, mm_ldJ 7 3), (7, mm_clV 10 1 2 f_X1_reach), (10, mm_ldR 11 0), (11, mm_ldI 12 2), (12, mm_clV 15 1 1 f_X1_side), (15, mm_l2 16 (fun a b => a &&& b)), (16, mm_k 17 (.long 0)), (17, mm_cmp 18), (18, mm_eq1 25 21), (21, mm_k 22 (.int 1)), (22, mm_go 26), (25, mm_k 26 (.int 0)), (26, mm_rtZ)]
noncomputable def f_X1_leads : mm_F := mm_do (mm_pr tb_X1_leads) 5
theorem mn_X1_leads : mm_alln tb_X1_leads := ⟨mm_n_ldR _ _, mm_n_ldR _ _, mm_n_ldI _ _, mm_n_clV _ _ _ (mo_X1_side), mm_n_ldJ _ _, mm_n_clV _ _ _ (mo_X1_reach), mm_n_ldR _ _, mm_n_ldI _ _, mm_n_clV _ _ _ (mo_X1_side), mm_n_l2 _ _, mm_n_k _ _, mm_n_cmp _, mm_n_eq1 _ _, mm_n_k _ _, mm_n_go _, mm_n_k _ _, mm_n_rtZ, trivial⟩
theorem mo_X1_leads : mm_Mo f_X1_leads := mm_do_mo (mm_alln_mem mn_X1_leads)
set_option maxRecDepth 10000 in
theorem ok_X1_leads {l : Launch} (hl : l.stackTraces = false) : mm_Ok l yX1_leads cX1_leads 5 (some .boolean) 3 73 tb_X1_leads := by
  refine ⟨mm_alln_mem mn_X1_leads, fun p e cells slots s m args below meth c D tc A S ad Tg X hret hname htab hth => mm_allr_mem ?_⟩
  exact ⟨mm_r_aload_n X (show decode cX1_leads 0 = .ok (.aload_n 0, 1) by decide +kernel) rfl,
    mm_r_aload_n X (show decode cX1_leads 1 = .ok (.aload_n 0, 1) by decide +kernel) rfl,
    mm_r_iload_n X (show decode cX1_leads 2 = .ok (.iload_n 1, 1) by decide +kernel) rfl,
    mm_r_clV X hth (ci := 1) (na := 1) (sn_X1_side hl) rfl (show decode cX1_leads 3 = .ok (.invokevirtual 97, 3) by decide +kernel) mw_222 mw_219 mw_220 mw_221 mw_45 hd_X1_side ⟨(Nat.le_of_ble_eq_true rfl), (Nat.le_of_ble_eq_true rfl)⟩,
    mm_r_lload_n X (show decode cX1_leads 6 = .ok (.lload_n 3, 1) by decide +kernel) rfl,
    mm_r_clV X hth (ci := 1) (na := 2) (sn_X1_reach hl) rfl (show decode cX1_leads 7 = .ok (.invokevirtual 93, 3) by decide +kernel) mw_226 mw_223 mw_224 mw_225 mw_45 hd_X1_reach ⟨(Nat.le_of_ble_eq_true rfl), (Nat.le_of_ble_eq_true rfl)⟩,
    mm_r_aload_n X (show decode cX1_leads 10 = .ok (.aload_n 0, 1) by decide +kernel) rfl,
    mm_r_iload_n X (show decode cX1_leads 11 = .ok (.iload_n 2, 1) by decide +kernel) rfl,
    mm_r_clV X hth (ci := 1) (na := 1) (sn_X1_side hl) rfl (show decode cX1_leads 12 = .ok (.invokevirtual 97, 3) by decide +kernel) mw_222 mw_219 mw_220 mw_221 mw_45 hd_X1_side ⟨(Nat.le_of_ble_eq_true rfl), (Nat.le_of_ble_eq_true rfl)⟩,
    mm_r_land X (show decode cX1_leads 15 = .ok (.land, 1) by decide +kernel),
    mm_r_lconst X (show decode cX1_leads 16 = .ok (.lconst 0, 1) by decide +kernel) rfl,
    mm_r_lcmp X (show decode cX1_leads 17 = .ok (.lcmp, 1) by decide +kernel),
    mm_r_eq1 X (show decode cX1_leads 18 = .ok (.ifCond .eq 7, 3) by decide +kernel) (by decide),
    mm_r_iconst X (show decode cX1_leads 21 = .ok (.iconst 1, 1) by decide +kernel) rfl,
    mm_r_goto X (show decode cX1_leads 22 = .ok (.goto 4, 3) by decide +kernel) (by decide),
    mm_r_iconst X (show decode cX1_leads 25 = .ok (.iconst 0, 1) by decide +kernel) rfl,
    mm_r_zret X hret (show decode cX1_leads 26 = .ok (.ireturn, 1) by decide +kernel), trivial⟩
theorem sn_X1_leads {l : Launch} (hl : l.stackTraces = false) : mm_Snd l yX1_leads (.code yX1_leads cX1_leads 5 (some .boolean)) 3 73 f_X1_leads := mm_met hl (plainFor_of_name (by decide +kernel)) (ok_X1_leads hl)
/-! Linkcourt$Board.hasJoined(IJ)Z -/
noncomputable def tb_X1_hasJoined : List (Nat × mm_I) := [(0, mm_ldR 1 0), (1, mm_gfI 4 1 7), (4, mm_k 5 (.int 1)), (5, mm_ne2 14 8), (8, mm_ldR 9 0), (9, mm_ldJ 10 2), (10, mm_clV 13 1 1 f_X1_isAtAllSides), (13, mm_rtZ), (14, mm_ldR 15 0), (15, mm_gfI 18 1 7), (18, mm_k 19 (.int 2)), (19, mm_ne2 52 22), (22, mm_ldI 23 1), (23, mm_k 24 (.int 1)), (24, mm_ne2 52 27), (27, mm_ldR 28 0), (28, mm_k 29 (.int 0)), (29, mm_k 30 (.int 1)), (30, mm_ldR 31 0), (31, mm_gfJ 34 1 10), (34, mm_ldJ 35 2), (35, mm_k 38 (.long (-1))), (38, mm_l2 39 (fun a b => a ^^^ b)), (39, mm_l2 40 (fun a b => a &&& b)), (40, mm_clV 43 1 3 f_X1_leads), (43, mm_ne1 50 46), (46, mm_k 47 (.int 1)), (47, mm_go 51), (50, mm_k 51 (.int 0)), (51, mm_rtZ), (52, mm_ldI 53 1), (53, mm_ne1 66 56), (56, mm_ldR 57 0), (57, mm_k 58 (.int 0)), (58, mm_k 59 (.int 1)), (59, mm_ldJ 60 2), (60, mm_clV 63 1 3 f_X1_leads), (63, mm_go 73), (66, mm_ldR 67 0), (67, mm_k 68 (.int 2)), (68, mm_k 69 (.int 3)), (69, mm_ldJ 70 2), (70, mm_clV 73 1 3 f_X1_leads), (73, mm_rtZ)]
noncomputable def f_X1_hasJoined : mm_F := mm_do (mm_pr tb_X1_hasJoined) 4
theorem mn_X1_hasJoined : mm_alln tb_X1_hasJoined := ⟨mm_n_ldR _ _, mm_n_gfI _ _ _, mm_n_k _ _, mm_n_ne2 _ _, mm_n_ldR _ _, mm_n_ldJ _ _, mm_n_clV _ _ _ (mo_X1_isAtAllSides), mm_n_rtZ, mm_n_ldR _ _, mm_n_gfI _ _ _, mm_n_k _ _, mm_n_ne2 _ _, mm_n_ldI _ _, mm_n_k _ _, mm_n_ne2 _ _, mm_n_ldR _ _, mm_n_k _ _, mm_n_k _ _, mm_n_ldR _ _, mm_n_gfJ _ _ _, mm_n_ldJ _ _, mm_n_k _ _, mm_n_l2 _ _, mm_n_l2 _ _, mm_n_clV _ _ _ (mo_X1_leads), mm_n_ne1 _ _, mm_n_k _ _, mm_n_go _, mm_n_k _ _, mm_n_rtZ, mm_n_ldI _ _, mm_n_ne1 _ _, mm_n_ldR _ _, mm_n_k _ _, mm_n_k _ _, mm_n_ldJ _ _, mm_n_clV _ _ _ (mo_X1_leads), mm_n_go _, mm_n_ldR _ _, mm_n_k _ _, mm_n_k _ _, mm_n_ldJ _ _, mm_n_clV _ _ _ (mo_X1_leads), mm_n_rtZ, trivial⟩
theorem mo_X1_hasJoined : mm_Mo f_X1_hasJoined := mm_do_mo (mm_alln_mem mn_X1_hasJoined)
set_option maxRecDepth 10000 in
theorem ok_X1_hasJoined {l : Launch} (hl : l.stackTraces = false) : mm_Ok l yX1_hasJoined cX1_hasJoined 4 (some .boolean) 4 100 tb_X1_hasJoined := by
  refine ⟨mm_alln_mem mn_X1_hasJoined, fun p e cells slots s m args below meth c D tc A S ad Tg X hret hname htab hth => mm_allr_mem ?_⟩
  exact ⟨mm_r_aload_n X (show decode cX1_hasJoined 0 = .ok (.aload_n 0, 1) by decide +kernel) rfl,
    mm_r_gfI X (ci := 1) (p := 7) (show mm_kd 1 7 = 0 by decide +kernel) rfl (Nat.le_of_ble_eq_true rfl) (show decode cX1_hasJoined 1 = .ok (.getfield 28, 3) by decide +kernel) mw_86 rfl,
    mm_r_iconst X (show decode cX1_hasJoined 4 = .ok (.iconst 1, 1) by decide +kernel) rfl,
    mm_r_ne2 X (show decode cX1_hasJoined 5 = .ok (.if_icmp .ne 9, 3) by decide +kernel) (by decide),
    mm_r_aload_n X (show decode cX1_hasJoined 8 = .ok (.aload_n 0, 1) by decide +kernel) rfl,
    mm_r_lload_n X (show decode cX1_hasJoined 9 = .ok (.lload_n 2, 1) by decide +kernel) rfl,
    mm_r_clV X hth (ci := 1) (na := 1) (sn_X1_isAtAllSides hl) rfl (show decode cX1_hasJoined 10 = .ok (.invokevirtual 101, 3) by decide +kernel) mw_218 mw_215 mw_217 mw_7 mw_45 hd_X1_isAtAllSides ⟨(Nat.le_of_ble_eq_true rfl), (Nat.le_of_ble_eq_true rfl)⟩,
    mm_r_zret X hret (show decode cX1_hasJoined 13 = .ok (.ireturn, 1) by decide +kernel),
    mm_r_aload_n X (show decode cX1_hasJoined 14 = .ok (.aload_n 0, 1) by decide +kernel) rfl,
    mm_r_gfI X (ci := 1) (p := 7) (show mm_kd 1 7 = 0 by decide +kernel) rfl (Nat.le_of_ble_eq_true rfl) (show decode cX1_hasJoined 15 = .ok (.getfield 28, 3) by decide +kernel) mw_86 rfl,
    mm_r_iconst X (show decode cX1_hasJoined 18 = .ok (.iconst 2, 1) by decide +kernel) rfl,
    mm_r_ne2 X (show decode cX1_hasJoined 19 = .ok (.if_icmp .ne 33, 3) by decide +kernel) (by decide),
    mm_r_iload_n X (show decode cX1_hasJoined 22 = .ok (.iload_n 1, 1) by decide +kernel) rfl,
    mm_r_iconst X (show decode cX1_hasJoined 23 = .ok (.iconst 1, 1) by decide +kernel) rfl,
    mm_r_ne2 X (show decode cX1_hasJoined 24 = .ok (.if_icmp .ne 28, 3) by decide +kernel) (by decide),
    mm_r_aload_n X (show decode cX1_hasJoined 27 = .ok (.aload_n 0, 1) by decide +kernel) rfl,
    mm_r_iconst X (show decode cX1_hasJoined 28 = .ok (.iconst 0, 1) by decide +kernel) rfl,
    mm_r_iconst X (show decode cX1_hasJoined 29 = .ok (.iconst 1, 1) by decide +kernel) rfl,
    mm_r_aload_n X (show decode cX1_hasJoined 30 = .ok (.aload_n 0, 1) by decide +kernel) rfl,
    mm_r_gfJ X (ci := 1) (p := 10) (show mm_kd 1 10 = 1 by decide +kernel) rfl (Nat.le_of_ble_eq_true rfl) (show decode cX1_hasJoined 31 = .ok (.getfield 47, 3) by decide +kernel) mw_95 rfl,
    mm_r_lload_n X (show decode cX1_hasJoined 34 = .ok (.lload_n 2, 1) by decide +kernel) rfl,
    mm_r_ldc2 X (show decode cX1_hasJoined 35 = .ok (.ldc2_w 91, 3) by decide +kernel) mw_233,
    mm_r_lxor X (show decode cX1_hasJoined 38 = .ok (.lxor, 1) by decide +kernel),
    mm_r_land X (show decode cX1_hasJoined 39 = .ok (.land, 1) by decide +kernel),
    mm_r_clV X hth (ci := 1) (na := 3) (sn_X1_leads hl) rfl (show decode cX1_hasJoined 40 = .ok (.invokevirtual 105, 3) by decide +kernel) mw_237 mw_234 mw_236 mw_8 mw_45 hd_X1_leads ⟨(Nat.le_of_ble_eq_true rfl), (Nat.le_of_ble_eq_true rfl)⟩,
    mm_r_ne1 X (show decode cX1_hasJoined 43 = .ok (.ifCond .ne 7, 3) by decide +kernel) (by decide),
    mm_r_iconst X (show decode cX1_hasJoined 46 = .ok (.iconst 1, 1) by decide +kernel) rfl,
    mm_r_goto X (show decode cX1_hasJoined 47 = .ok (.goto 4, 3) by decide +kernel) (by decide),
    mm_r_iconst X (show decode cX1_hasJoined 50 = .ok (.iconst 0, 1) by decide +kernel) rfl,
    mm_r_zret X hret (show decode cX1_hasJoined 51 = .ok (.ireturn, 1) by decide +kernel),
    mm_r_iload_n X (show decode cX1_hasJoined 52 = .ok (.iload_n 1, 1) by decide +kernel) rfl,
    mm_r_ne1 X (show decode cX1_hasJoined 53 = .ok (.ifCond .ne 13, 3) by decide +kernel) (by decide),
    mm_r_aload_n X (show decode cX1_hasJoined 56 = .ok (.aload_n 0, 1) by decide +kernel) rfl,
    mm_r_iconst X (show decode cX1_hasJoined 57 = .ok (.iconst 0, 1) by decide +kernel) rfl,
    mm_r_iconst X (show decode cX1_hasJoined 58 = .ok (.iconst 1, 1) by decide +kernel) rfl,
    mm_r_lload_n X (show decode cX1_hasJoined 59 = .ok (.lload_n 2, 1) by decide +kernel) rfl,
    mm_r_clV X hth (ci := 1) (na := 3) (sn_X1_leads hl) rfl (show decode cX1_hasJoined 60 = .ok (.invokevirtual 105, 3) by decide +kernel) mw_237 mw_234 mw_236 mw_8 mw_45 hd_X1_leads ⟨(Nat.le_of_ble_eq_true rfl), (Nat.le_of_ble_eq_true rfl)⟩,
    mm_r_goto X (show decode cX1_hasJoined 63 = .ok (.goto 10, 3) by decide +kernel) (by decide),
    mm_r_aload_n X (show decode cX1_hasJoined 66 = .ok (.aload_n 0, 1) by decide +kernel) rfl,
    mm_r_iconst X (show decode cX1_hasJoined 67 = .ok (.iconst 2, 1) by decide +kernel) rfl,
    mm_r_iconst X (show decode cX1_hasJoined 68 = .ok (.iconst 3, 1) by decide +kernel) rfl,
    mm_r_lload_n X (show decode cX1_hasJoined 69 = .ok (.lload_n 2, 1) by decide +kernel) rfl,
    mm_r_clV X hth (ci := 1) (na := 3) (sn_X1_leads hl) rfl (show decode cX1_hasJoined 70 = .ok (.invokevirtual 105, 3) by decide +kernel) mw_237 mw_234 mw_236 mw_8 mw_45 hd_X1_leads ⟨(Nat.le_of_ble_eq_true rfl), (Nat.le_of_ble_eq_true rfl)⟩,
    mm_r_zret X hret (show decode cX1_hasJoined 73 = .ok (.ireturn, 1) by decide +kernel), trivial⟩
theorem sn_X1_hasJoined {l : Launch} (hl : l.stackTraces = false) : mm_Snd l yX1_hasJoined (.code yX1_hasJoined cX1_hasJoined 4 (some .boolean)) 4 100 f_X1_hasJoined := mm_met hl (plainFor_of_name (by decide +kernel)) (ok_X1_hasJoined hl)
/-! Linkcourt$Play.settle()V -/
noncomputable def tb_X6_settle : List (Nat × mm_I) := [(0, mm_ldR 1 0), (1, mm_ldR 2 0), (2, mm_ldR 3 0), (3, mm_gfI 6 6 2), (6, mm_k 7 (.int 0)), (7, mm_clV 10 6 2 f_X6_stonesAhead), (10, mm_pfJ 13 6 4), (13, mm_ldR 14 0), (14, mm_ldR 15 0), (15, mm_ldR 16 0), (16, mm_gfI 19 6 2), (19, mm_k 20 (.int 1)), (20, mm_clV 23 6 2 f_X6_stonesAhead), (23, mm_pfJ 26 6 5), (26, mm_ldR 27 0), (27, mm_ldR 28 0), (28, mm_gfR 31 6 0), (31, mm_k 32 (.int 0)), (32, mm_ldR 33 0), (33, mm_gfJ 36 6 4), (36, mm_clV 39 1 2 f_X1_hasJoined), (39, mm_eq1 46 42), (42, mm_k 43 (.int 0)), (43, mm_go 66), (46, mm_ldR 47 0), (47, mm_gfR 50 6 0), (50, mm_k 51 (.int 1)), (51, mm_ldR 52 0), (52, mm_gfJ 55 6 5), (55, mm_clV 58 1 2 f_X1_hasJoined), (58, mm_eq1 65 61), (61, mm_k 62 (.int 1)), (62, mm_go 66), (65, mm_k 66 (.int (-1))), (66, mm_pfI 69 6 6), (69, mm_rtV)]
noncomputable def f_X6_settle : mm_F := mm_do (mm_pr tb_X6_settle) 1
theorem mn_X6_settle : mm_alln tb_X6_settle := ⟨mm_n_ldR _ _, mm_n_ldR _ _, mm_n_ldR _ _, mm_n_gfI _ _ _, mm_n_k _ _, mm_n_clV _ _ _ (mo_X6_stonesAhead), mm_n_pfJ _ _ _, mm_n_ldR _ _, mm_n_ldR _ _, mm_n_ldR _ _, mm_n_gfI _ _ _, mm_n_k _ _, mm_n_clV _ _ _ (mo_X6_stonesAhead), mm_n_pfJ _ _ _, mm_n_ldR _ _, mm_n_ldR _ _, mm_n_gfR _ _ _, mm_n_k _ _, mm_n_ldR _ _, mm_n_gfJ _ _ _, mm_n_clV _ _ _ (mo_X1_hasJoined), mm_n_eq1 _ _, mm_n_k _ _, mm_n_go _, mm_n_ldR _ _, mm_n_gfR _ _ _, mm_n_k _ _, mm_n_ldR _ _, mm_n_gfJ _ _ _, mm_n_clV _ _ _ (mo_X1_hasJoined), mm_n_eq1 _ _, mm_n_k _ _, mm_n_go _, mm_n_k _ _, mm_n_pfI _ _ _, mm_n_rtV, trivial⟩
theorem mo_X6_settle : mm_Mo f_X6_settle := mm_do_mo (mm_alln_mem mn_X6_settle)
set_option maxRecDepth 10000 in
theorem ok_X6_settle {l : Launch} (hl : l.stackTraces = false) : mm_Ok l yX6_settle cX6_settle 1 none 5 123 tb_X6_settle := by
  refine ⟨mm_alln_mem mn_X6_settle, fun p e cells slots s m args below meth c D tc A S ad Tg X hret hname htab hth => mm_allr_mem ?_⟩
  exact ⟨mm_r_aload_n X (show decode cX6_settle 0 = .ok (.aload_n 0, 1) by decide +kernel) rfl,
    mm_r_aload_n X (show decode cX6_settle 1 = .ok (.aload_n 0, 1) by decide +kernel) rfl,
    mm_r_aload_n X (show decode cX6_settle 2 = .ok (.aload_n 0, 1) by decide +kernel) rfl,
    mm_r_gfI X (ci := 6) (p := 2) (show mm_kd 6 2 = 0 by decide +kernel) rfl (Nat.le_of_ble_eq_true rfl) (show decode cX6_settle 3 = .ok (.getfield 23, 3) by decide +kernel) mw_170 rfl,
    mm_r_iconst X (show decode cX6_settle 6 = .ok (.iconst 0, 1) by decide +kernel) rfl,
    mm_r_clV X hth (ci := 6) (na := 2) (sn_X6_stonesAhead hl) rfl (show decode cX6_settle 7 = .ok (.invokevirtual 43, 3) by decide +kernel) mw_206 mw_203 mw_204 mw_205 mw_46 hd_X6_stonesAhead ⟨(Nat.le_of_ble_eq_true rfl), (Nat.le_of_ble_eq_true rfl)⟩,
    mm_r_pfJ X (ci := 6) (p := 4) (show mm_kd 6 4 = 1 by decide +kernel) rfl rfl (Nat.le_of_ble_eq_true rfl) (show decode cX6_settle 10 = .ok (.putfield 47, 3) by decide +kernel) mw_174 rfl rfl,
    mm_r_aload_n X (show decode cX6_settle 13 = .ok (.aload_n 0, 1) by decide +kernel) rfl,
    mm_r_aload_n X (show decode cX6_settle 14 = .ok (.aload_n 0, 1) by decide +kernel) rfl,
    mm_r_aload_n X (show decode cX6_settle 15 = .ok (.aload_n 0, 1) by decide +kernel) rfl,
    mm_r_gfI X (ci := 6) (p := 2) (show mm_kd 6 2 = 0 by decide +kernel) rfl (Nat.le_of_ble_eq_true rfl) (show decode cX6_settle 16 = .ok (.getfield 23, 3) by decide +kernel) mw_170 rfl,
    mm_r_iconst X (show decode cX6_settle 19 = .ok (.iconst 1, 1) by decide +kernel) rfl,
    mm_r_clV X hth (ci := 6) (na := 2) (sn_X6_stonesAhead hl) rfl (show decode cX6_settle 20 = .ok (.invokevirtual 43, 3) by decide +kernel) mw_206 mw_203 mw_204 mw_205 mw_46 hd_X6_stonesAhead ⟨(Nat.le_of_ble_eq_true rfl), (Nat.le_of_ble_eq_true rfl)⟩,
    mm_r_pfJ X (ci := 6) (p := 5) (show mm_kd 6 5 = 1 by decide +kernel) rfl rfl (Nat.le_of_ble_eq_true rfl) (show decode cX6_settle 23 = .ok (.putfield 51, 3) by decide +kernel) mw_176 rfl rfl,
    mm_r_aload_n X (show decode cX6_settle 26 = .ok (.aload_n 0, 1) by decide +kernel) rfl,
    mm_r_aload_n X (show decode cX6_settle 27 = .ok (.aload_n 0, 1) by decide +kernel) rfl,
    mm_r_gfR X (ci := 6) (p := 0) (show mm_kd 6 0 = 2 by decide +kernel) rfl (Nat.le_of_ble_eq_true rfl) (show decode cX6_settle 28 = .ok (.getfield 19, 3) by decide +kernel) mw_168 rfl,
    mm_r_iconst X (show decode cX6_settle 31 = .ok (.iconst 0, 1) by decide +kernel) rfl,
    mm_r_aload_n X (show decode cX6_settle 32 = .ok (.aload_n 0, 1) by decide +kernel) rfl,
    mm_r_gfJ X (ci := 6) (p := 4) (show mm_kd 6 4 = 1 by decide +kernel) rfl (Nat.le_of_ble_eq_true rfl) (show decode cX6_settle 33 = .ok (.getfield 47, 3) by decide +kernel) mw_174 rfl,
    mm_r_clV X hth (ci := 1) (na := 2) (sn_X1_hasJoined hl) rfl (show decode cX6_settle 36 = .ok (.invokevirtual 54, 3) by decide +kernel) mw_214 mw_211 mw_212 mw_213 mw_45 hd_X1_hasJoined ⟨(Nat.le_of_ble_eq_true rfl), (Nat.le_of_ble_eq_true rfl)⟩,
    mm_r_eq1 X (show decode cX6_settle 39 = .ok (.ifCond .eq 7, 3) by decide +kernel) (by decide),
    mm_r_iconst X (show decode cX6_settle 42 = .ok (.iconst 0, 1) by decide +kernel) rfl,
    mm_r_goto X (show decode cX6_settle 43 = .ok (.goto 23, 3) by decide +kernel) (by decide),
    mm_r_aload_n X (show decode cX6_settle 46 = .ok (.aload_n 0, 1) by decide +kernel) rfl,
    mm_r_gfR X (ci := 6) (p := 0) (show mm_kd 6 0 = 2 by decide +kernel) rfl (Nat.le_of_ble_eq_true rfl) (show decode cX6_settle 47 = .ok (.getfield 19, 3) by decide +kernel) mw_168 rfl,
    mm_r_iconst X (show decode cX6_settle 50 = .ok (.iconst 1, 1) by decide +kernel) rfl,
    mm_r_aload_n X (show decode cX6_settle 51 = .ok (.aload_n 0, 1) by decide +kernel) rfl,
    mm_r_gfJ X (ci := 6) (p := 5) (show mm_kd 6 5 = 1 by decide +kernel) rfl (Nat.le_of_ble_eq_true rfl) (show decode cX6_settle 52 = .ok (.getfield 51, 3) by decide +kernel) mw_176 rfl,
    mm_r_clV X hth (ci := 1) (na := 2) (sn_X1_hasJoined hl) rfl (show decode cX6_settle 55 = .ok (.invokevirtual 54, 3) by decide +kernel) mw_214 mw_211 mw_212 mw_213 mw_45 hd_X1_hasJoined ⟨(Nat.le_of_ble_eq_true rfl), (Nat.le_of_ble_eq_true rfl)⟩,
    mm_r_eq1 X (show decode cX6_settle 58 = .ok (.ifCond .eq 7, 3) by decide +kernel) (by decide),
    mm_r_iconst X (show decode cX6_settle 61 = .ok (.iconst 1, 1) by decide +kernel) rfl,
    mm_r_goto X (show decode cX6_settle 62 = .ok (.goto 4, 3) by decide +kernel) (by decide),
    mm_r_iconst X (show decode cX6_settle 65 = .ok (.iconst (-1), 1) by decide +kernel) rfl,
    mm_r_pfI X (ci := 6) (p := 6) (show mm_kd 6 6 = 0 by decide +kernel) rfl rfl (Nat.le_of_ble_eq_true rfl) (show decode cX6_settle 66 = .ok (.putfield 15, 3) by decide +kernel) mw_178 rfl rfl,
    mm_r_vret X hret (show decode cX6_settle 69 = .ok (.return_, 1) by decide +kernel), trivial⟩
theorem sn_X6_settle {l : Launch} (hl : l.stackTraces = false) : mm_Snd l yX6_settle (.code yX6_settle cX6_settle 1 none) 5 123 f_X6_settle := mm_met hl (plainFor_of_name (by decide +kernel)) (ok_X6_settle hl)
/-! Linkcourt$Play.begin()V -/
noncomputable def tb_X6_begin : List (Nat × mm_I) := [(0, mm_ldR 1 0), (1, mm_k 2 (.int 0)), (2, mm_pfI 5 6 2), (5, mm_ldR 6 0), (6, mm_k 7 (.int 0)), (7, mm_pfZ 10 6 3), (10, mm_ldR 11 0), (11, mm_clV 14 6 0 f_X6_settle), (14, mm_rtV)]
noncomputable def f_X6_begin : mm_F := mm_do (mm_pr tb_X6_begin) 1
theorem mn_X6_begin : mm_alln tb_X6_begin := ⟨mm_n_ldR _ _, mm_n_k _ _, mm_n_pfI _ _ _, mm_n_ldR _ _, mm_n_k _ _, mm_n_pfZ _ _ _, mm_n_ldR _ _, mm_n_clV _ _ _ (mo_X6_settle), mm_n_rtV, trivial⟩
theorem mo_X6_begin : mm_Mo f_X6_begin := mm_do_mo (mm_alln_mem mn_X6_begin)
set_option maxRecDepth 10000 in
theorem ok_X6_begin {l : Launch} (hl : l.stackTraces = false) : mm_Ok l yX6_begin cX6_begin 1 none 6 143 tb_X6_begin := by
  refine ⟨mm_alln_mem mn_X6_begin, fun p e cells slots s m args below meth c D tc A S ad Tg X hret hname htab hth => mm_allr_mem ?_⟩
  exact ⟨mm_r_aload_n X (show decode cX6_begin 0 = .ok (.aload_n 0, 1) by decide +kernel) rfl,
    mm_r_iconst X (show decode cX6_begin 1 = .ok (.iconst 0, 1) by decide +kernel) rfl,
    mm_r_pfI X (ci := 6) (p := 2) (show mm_kd 6 2 = 0 by decide +kernel) rfl rfl (Nat.le_of_ble_eq_true rfl) (show decode cX6_begin 2 = .ok (.putfield 23, 3) by decide +kernel) mw_170 rfl rfl,
    mm_r_aload_n X (show decode cX6_begin 5 = .ok (.aload_n 0, 1) by decide +kernel) rfl,
    mm_r_iconst X (show decode cX6_begin 6 = .ok (.iconst 0, 1) by decide +kernel) rfl,
    mm_r_pfZ X (ci := 6) (p := 3) (show mm_kd 6 3 = 0 by decide +kernel) rfl rfl (Nat.le_of_ble_eq_true rfl) (show decode cX6_begin 7 = .ok (.putfield 26, 3) by decide +kernel) mw_172 rfl rfl,
    mm_r_aload_n X (show decode cX6_begin 10 = .ok (.aload_n 0, 1) by decide +kernel) rfl,
    mm_r_clV X hth (ci := 6) (na := 0) (sn_X6_settle hl) rfl (show decode cX6_begin 11 = .ok (.invokevirtual 30, 3) by decide +kernel) mw_202 mw_199 mw_201 mw_5 mw_46 hd_X6_settle ⟨(Nat.le_of_ble_eq_true rfl), (Nat.le_of_ble_eq_true rfl)⟩,
    mm_r_vret X hret (show decode cX6_begin 14 = .ok (.return_, 1) by decide +kernel), trivial⟩
theorem sn_X6_begin {l : Launch} (hl : l.stackTraces = false) : mm_Snd l yX6_begin (.code yX6_begin cX6_begin 1 none) 6 143 f_X6_begin := mm_met hl (plainFor_of_name (by decide +kernel)) (ok_X6_begin hl)
