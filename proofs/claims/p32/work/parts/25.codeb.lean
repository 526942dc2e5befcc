/-! codes: by program (wip/p32/gen/gencode.py) -/
/-! Linkcourt$Ways.note(IJI)V -/
noncomputable def tb_X9_note : List (Nat × mm_I) := [(0, mm_k 1 (.int 0)), (1, mm_stI 3 5), (3, mm_ldI 5 5), (5, mm_ldR 6 0), (6, mm_gfR 9 9 0), (9, mm_gfI 12 1 8), (12, mm_ge2 63 15), (15, mm_ldI 16 1), (16, mm_k 18 (.int 36)), (18, mm_i2 19 (fun a b => a * b)), (19, mm_ldI 21 5), (21, mm_i2 22 (fun a b => a + b)), (22, mm_stI 24 6), (24, mm_ldJ 25 2), (25, mm_ldI 27 5), (27, mm_clS 30 2 f_X10_has), (30, mm_eq1 57 33), (33, mm_ldI 35 6), (35, mm_lt1 57 38), (38, mm_ldI 40 6), (40, mm_ldR 41 0), (41, mm_gfR 44 9 1), (44, mm_aln 45 0), (45, mm_ge2 57 48), (48, mm_ldR 49 0), (49, mm_gfR 52 9 1), (52, mm_ldI 54 6), (54, mm_ldI 56 4), (56, mm_ast 57 0 (fun v => v)), (57, mm_inc 60 5 1), (60, mm_go 3), (63, mm_rtV)]
noncomputable def f_X9_note : mm_F := mm_do (mm_pr tb_X9_note) 7
theorem mn_X9_note : mm_alln tb_X9_note := ⟨mm_n_k _ _, mm_n_stI _ _, mm_n_ldI _ _, mm_n_ldR _ _, mm_n_gfR _ _ _, mm_n_gfI _ _ _, mm_n_ge2 _ _, mm_n_ldI _ _, mm_n_k _ _, mm_n_i2 _ _, mm_n_ldI _ _, mm_n_i2 _ _, mm_n_stI _ _, mm_n_ldJ _ _, mm_n_ldI _ _, mm_n_clS _ _ (mo_X10_has), mm_n_eq1 _ _, mm_n_ldI _ _, mm_n_lt1 _ _, mm_n_ldI _ _, mm_n_ldR _ _, mm_n_gfR _ _ _, mm_n_aln _ _, mm_n_ge2 _ _, mm_n_ldR _ _, mm_n_gfR _ _ _, mm_n_ldI _ _, mm_n_ldI _ _, mm_n_ast _ _ _, mm_n_inc _ _ _, mm_n_go _, mm_n_rtV, trivial⟩
theorem mo_X9_note : mm_Mo f_X9_note := mm_do_mo (mm_alln_mem mn_X9_note)
set_option maxRecDepth 10000 in
theorem ok_X9_note {l : Launch} (hl : l.stackTraces = false) : mm_Ok l yX9_note cX9_note 7 none 2 42 tb_X9_note := by
  refine ⟨mm_alln_mem mn_X9_note, fun p e cells slots s m args below meth c D tc A S ad Tg X hret hname htab hth => mm_allr_mem ?_⟩
  exact ⟨mm_r_iconst X (show decode cX9_note 0 = .ok (.iconst 0, 1) by decide +kernel) rfl,
    mm_r_istore X (show decode cX9_note 1 = .ok (.istore 5, 2) by decide +kernel) (Nat.le_of_ble_eq_true rfl),
    mm_r_iload X (show decode cX9_note 3 = .ok (.iload 5, 2) by decide +kernel),
    mm_r_aload_n X (show decode cX9_note 5 = .ok (.aload_n 0, 1) by decide +kernel) rfl,
    mm_r_gfR X (ci := 9) (p := 0) (show mm_kd 9 0 = 2 by decide +kernel) rfl (Nat.le_of_ble_eq_true rfl) (show decode cX9_note 6 = .ok (.getfield 15, 3) by decide +kernel) mw_324 rfl,
    mm_r_gfI X (ci := 1) (p := 8) (show mm_kd 1 8 = 0 by decide +kernel) rfl (Nat.le_of_ble_eq_true rfl) (show decode cX9_note 9 = .ok (.getfield 41, 3) by decide +kernel) mw_91 rfl,
    mm_r_ge2 X (show decode cX9_note 12 = .ok (.if_icmp .ge 51, 3) by decide +kernel) (by decide),
    mm_r_iload_n X (show decode cX9_note 15 = .ok (.iload_n 1, 1) by decide +kernel) rfl,
    mm_r_bipush X (show decode cX9_note 16 = .ok (.bipush 36, 2) by decide +kernel) rfl,
    mm_r_imul X (show decode cX9_note 18 = .ok (.imul, 1) by decide +kernel),
    mm_r_iload X (show decode cX9_note 19 = .ok (.iload 5, 2) by decide +kernel),
    mm_r_iadd X (show decode cX9_note 21 = .ok (.iadd, 1) by decide +kernel),
    mm_r_istore X (show decode cX9_note 22 = .ok (.istore 6, 2) by decide +kernel) (Nat.le_of_ble_eq_true rfl),
    mm_r_lload_n X (show decode cX9_note 24 = .ok (.lload_n 2, 1) by decide +kernel) rfl,
    mm_r_iload X (show decode cX9_note 25 = .ok (.iload 5, 2) by decide +kernel),
    mm_r_clSN X hth (na := 2) (sn_X10_has hl) (show decode cX9_note 27 = .ok (.invokestatic 44, 3) by decide +kernel) mw_593 (show ("Linkcourt$Ways", 44, yX10_has) ∈ mm_nest by decide +kernel) mw_592 mw_44 hd_X10_has.2 ⟨(Nat.le_of_ble_eq_true rfl), (Nat.le_of_ble_eq_true rfl)⟩,
    mm_r_eq1 X (show decode cX9_note 30 = .ok (.ifCond .eq 27, 3) by decide +kernel) (by decide),
    mm_r_iload X (show decode cX9_note 33 = .ok (.iload 6, 2) by decide +kernel),
    mm_r_lt1 X (show decode cX9_note 35 = .ok (.ifCond .lt 22, 3) by decide +kernel) (by decide),
    mm_r_iload X (show decode cX9_note 38 = .ok (.iload 6, 2) by decide +kernel),
    mm_r_aload_n X (show decode cX9_note 40 = .ok (.aload_n 0, 1) by decide +kernel) rfl,
    mm_r_gfR X (ci := 9) (p := 1) (show mm_kd 9 1 = 2 by decide +kernel) rfl (Nat.le_of_ble_eq_true rfl) (show decode cX9_note 41 = .ok (.getfield 11, 3) by decide +kernel) mw_325 rfl,
    mm_r_aln X (t := 0) (Nat.le_of_ble_eq_true rfl) (show decode cX9_note 44 = .ok (.arraylength, 1) by decide +kernel),
    mm_r_ge2 X (show decode cX9_note 45 = .ok (.if_icmp .ge 12, 3) by decide +kernel) (by decide),
    mm_r_aload_n X (show decode cX9_note 48 = .ok (.aload_n 0, 1) by decide +kernel) rfl,
    mm_r_gfR X (ci := 9) (p := 1) (show mm_kd 9 1 = 2 by decide +kernel) rfl (Nat.le_of_ble_eq_true rfl) (show decode cX9_note 49 = .ok (.getfield 11, 3) by decide +kernel) mw_325 rfl,
    mm_r_iload X (show decode cX9_note 52 = .ok (.iload 6, 2) by decide +kernel),
    mm_r_iload X (show decode cX9_note 54 = .ok (.iload 4, 2) by decide +kernel),
    mm_r_iast X (show decode cX9_note 56 = .ok (.iastore, 1) by decide +kernel),
    mm_r_iinc X (show decode cX9_note 57 = .ok (.iinc 5 1, 3) by decide +kernel) rfl (Nat.le_of_ble_eq_true rfl),
    mm_r_goto X (show decode cX9_note 60 = .ok (.goto (-57), 3) by decide +kernel) (by decide),
    mm_r_vret X hret (show decode cX9_note 63 = .ok (.return_, 1) by decide +kernel), trivial⟩
theorem sn_X9_note {l : Launch} (hl : l.stackTraces = false) : mm_Snd l yX9_note (.code yX9_note cX9_note 7 none) 2 42 f_X9_note := mm_met hl (plainFor_of_name (by decide +kernel)) (ok_X9_note hl)
/-! Linkcourt$Board.around(I)J -/
noncomputable def tb_X1_around : List (Nat × mm_I) := [(0, mm_ldI 1 1), (1, mm_lt1 10 4), (4, mm_ldI 5 1), (5, mm_k 7 (.int 36)), (7, mm_lt2 14 10), (10, mm_k 11 (.long 0)), (11, mm_go 20), (14, mm_ldR 15 0), (15, mm_gfR 18 1 3), (18, mm_ldI 19 1), (19, mm_aldJ 20), (20, mm_rtJ)]
noncomputable def f_X1_around : mm_F := mm_do (mm_pr tb_X1_around) 2
theorem mn_X1_around : mm_alln tb_X1_around := ⟨mm_n_ldI _ _, mm_n_lt1 _ _, mm_n_ldI _ _, mm_n_k _ _, mm_n_lt2 _ _, mm_n_k _ _, mm_n_go _, mm_n_ldR _ _, mm_n_gfR _ _ _, mm_n_ldI _ _, mm_n_aldJ _, mm_n_rtJ, trivial⟩
theorem mo_X1_around : mm_Mo f_X1_around := mm_do_mo (mm_alln_mem mn_X1_around)
set_option maxRecDepth 10000 in
theorem ok_X1_around {l : Launch} (hl : l.stackTraces = false) : mm_Ok l yX1_around cX1_around 2 (some .long) 1 20 tb_X1_around := by
  refine ⟨mm_alln_mem mn_X1_around, fun p e cells slots s m args below meth c D tc A S ad Tg X hret hname htab hth => mm_allr_mem ?_⟩
  exact ⟨mm_r_iload_n X (show decode cX1_around 0 = .ok (.iload_n 1, 1) by decide +kernel) rfl,
    mm_r_lt1 X (show decode cX1_around 1 = .ok (.ifCond .lt 9, 3) by decide +kernel) (by decide),
    mm_r_iload_n X (show decode cX1_around 4 = .ok (.iload_n 1, 1) by decide +kernel) rfl,
    mm_r_bipush X (show decode cX1_around 5 = .ok (.bipush 36, 2) by decide +kernel) rfl,
    mm_r_lt2 X (show decode cX1_around 7 = .ok (.if_icmp .lt 7, 3) by decide +kernel) (by decide),
    mm_r_lconst X (show decode cX1_around 10 = .ok (.lconst 0, 1) by decide +kernel) rfl,
    mm_r_goto X (show decode cX1_around 11 = .ok (.goto 9, 3) by decide +kernel) (by decide),
    mm_r_aload_n X (show decode cX1_around 14 = .ok (.aload_n 0, 1) by decide +kernel) rfl,
    mm_r_gfR X (ci := 1) (p := 3) (show mm_kd 1 3 = 2 by decide +kernel) rfl (Nat.le_of_ble_eq_true rfl) (show decode cX1_around 15 = .ok (.getfield 21, 3) by decide +kernel) mw_82 rfl,
    mm_r_iload_n X (show decode cX1_around 18 = .ok (.iload_n 1, 1) by decide +kernel) rfl,
    mm_r_lald X (show decode cX1_around 19 = .ok (.laload, 1) by decide +kernel),
    mm_r_lret X hret (show decode cX1_around 20 = .ok (.lreturn, 1) by decide +kernel), trivial⟩
theorem sn_X1_around {l : Launch} (hl : l.stackTraces = false) : mm_Snd l yX1_around (.code yX1_around cX1_around 2 (some .long)) 1 20 f_X1_around := mm_met hl (plainFor_of_name (by decide +kernel)) (ok_X1_around hl)
/-! Linkcourt$Ways.beside(J)J -/
noncomputable def tb_X9_beside : List (Nat × mm_I) := [(0, mm_k 1 (.long 0)), (1, mm_stJ 2 3), (2, mm_k 3 (.int 0)), (3, mm_stI 5 5), (5, mm_ldI 7 5), (7, mm_ldR 8 0), (8, mm_gfR 11 9 0), (11, mm_gfI 14 1 8), (14, mm_ge2 48 17), (17, mm_ldJ 18 3), (18, mm_ldJ 19 1), (19, mm_ldI 21 5), (21, mm_clS 24 2 f_X10_has), (24, mm_eq1 39 27), (27, mm_ldR 28 0), (28, mm_gfR 31 9 0), (31, mm_ldI 33 5), (33, mm_clV 36 1 1 f_X1_around), (36, mm_go 40), (39, mm_k 40 (.long 0)), (40, mm_l2 41 (fun a b => a ||| b)), (41, mm_stJ 42 3), (42, mm_inc 45 5 1), (45, mm_go 5), (48, mm_ldJ 49 3), (49, mm_rtJ)]
noncomputable def f_X9_beside : mm_F := mm_do (mm_pr tb_X9_beside) 6
theorem mn_X9_beside : mm_alln tb_X9_beside := ⟨mm_n_k _ _, mm_n_stJ _ _, mm_n_k _ _, mm_n_stI _ _, mm_n_ldI _ _, mm_n_ldR _ _, mm_n_gfR _ _ _, mm_n_gfI _ _ _, mm_n_ge2 _ _, mm_n_ldJ _ _, mm_n_ldJ _ _, mm_n_ldI _ _, mm_n_clS _ _ (mo_X10_has), mm_n_eq1 _ _, mm_n_ldR _ _, mm_n_gfR _ _ _, mm_n_ldI _ _, mm_n_clV _ _ _ (mo_X1_around), mm_n_go _, mm_n_k _ _, mm_n_l2 _ _, mm_n_stJ _ _, mm_n_inc _ _ _, mm_n_go _, mm_n_ldJ _ _, mm_n_rtJ, trivial⟩
theorem mo_X9_beside : mm_Mo f_X9_beside := mm_do_mo (mm_alln_mem mn_X9_beside)
set_option maxRecDepth 10000 in
theorem ok_X9_beside {l : Launch} (hl : l.stackTraces = false) : mm_Ok l yX9_beside cX9_beside 6 (some .long) 2 42 tb_X9_beside := by
  refine ⟨mm_alln_mem mn_X9_beside, fun p e cells slots s m args below meth c D tc A S ad Tg X hret hname htab hth => mm_allr_mem ?_⟩
  exact ⟨mm_r_lconst X (show decode cX9_beside 0 = .ok (.lconst 0, 1) by decide +kernel) rfl,
    mm_r_lstore_n X (show decode cX9_beside 1 = .ok (.lstore_n 3, 1) by decide +kernel) rfl (Nat.le_of_ble_eq_true rfl),
    mm_r_iconst X (show decode cX9_beside 2 = .ok (.iconst 0, 1) by decide +kernel) rfl,
    mm_r_istore X (show decode cX9_beside 3 = .ok (.istore 5, 2) by decide +kernel) (Nat.le_of_ble_eq_true rfl),
    mm_r_iload X (show decode cX9_beside 5 = .ok (.iload 5, 2) by decide +kernel),
    mm_r_aload_n X (show decode cX9_beside 7 = .ok (.aload_n 0, 1) by decide +kernel) rfl,
    mm_r_gfR X (ci := 9) (p := 0) (show mm_kd 9 0 = 2 by decide +kernel) rfl (Nat.le_of_ble_eq_true rfl) (show decode cX9_beside 8 = .ok (.getfield 15, 3) by decide +kernel) mw_324 rfl,
    mm_r_gfI X (ci := 1) (p := 8) (show mm_kd 1 8 = 0 by decide +kernel) rfl (Nat.le_of_ble_eq_true rfl) (show decode cX9_beside 11 = .ok (.getfield 41, 3) by decide +kernel) mw_91 rfl,
    mm_r_ge2 X (show decode cX9_beside 14 = .ok (.if_icmp .ge 34, 3) by decide +kernel) (by decide),
    mm_r_lload_n X (show decode cX9_beside 17 = .ok (.lload_n 3, 1) by decide +kernel) rfl,
    mm_r_lload_n X (show decode cX9_beside 18 = .ok (.lload_n 1, 1) by decide +kernel) rfl,
    mm_r_iload X (show decode cX9_beside 19 = .ok (.iload 5, 2) by decide +kernel),
    mm_r_clSN X hth (na := 2) (sn_X10_has hl) (show decode cX9_beside 21 = .ok (.invokestatic 44, 3) by decide +kernel) mw_593 (show ("Linkcourt$Ways", 44, yX10_has) ∈ mm_nest by decide +kernel) mw_592 mw_44 hd_X10_has.2 ⟨(Nat.le_of_ble_eq_true rfl), (Nat.le_of_ble_eq_true rfl)⟩,
    mm_r_eq1 X (show decode cX9_beside 24 = .ok (.ifCond .eq 15, 3) by decide +kernel) (by decide),
    mm_r_aload_n X (show decode cX9_beside 27 = .ok (.aload_n 0, 1) by decide +kernel) rfl,
    mm_r_gfR X (ci := 9) (p := 0) (show mm_kd 9 0 = 2 by decide +kernel) rfl (Nat.le_of_ble_eq_true rfl) (show decode cX9_beside 28 = .ok (.getfield 15, 3) by decide +kernel) mw_324 rfl,
    mm_r_iload X (show decode cX9_beside 31 = .ok (.iload 5, 2) by decide +kernel),
    mm_r_clV X hth (ci := 1) (na := 1) (sn_X1_around hl) rfl (show decode cX9_beside 33 = .ok (.invokevirtual 75, 3) by decide +kernel) mw_961 mw_958 mw_959 mw_960 mw_45 hd_X1_around ⟨(Nat.le_of_ble_eq_true rfl), (Nat.le_of_ble_eq_true rfl)⟩,
    mm_r_goto X (show decode cX9_beside 36 = .ok (.goto 4, 3) by decide +kernel) (by decide),
    mm_r_lconst X (show decode cX9_beside 39 = .ok (.lconst 0, 1) by decide +kernel) rfl,
    mm_r_lor X (show decode cX9_beside 40 = .ok (.lor, 1) by decide +kernel),
    mm_r_lstore_n X (show decode cX9_beside 41 = .ok (.lstore_n 3, 1) by decide +kernel) rfl (Nat.le_of_ble_eq_true rfl),
    mm_r_iinc X (show decode cX9_beside 42 = .ok (.iinc 5 1, 3) by decide +kernel) rfl (Nat.le_of_ble_eq_true rfl),
    mm_r_goto X (show decode cX9_beside 45 = .ok (.goto (-40), 3) by decide +kernel) (by decide),
    mm_r_lload_n X (show decode cX9_beside 48 = .ok (.lload_n 3, 1) by decide +kernel) rfl,
    mm_r_lret X hret (show decode cX9_beside 49 = .ok (.lreturn, 1) by decide +kernel), trivial⟩
theorem sn_X9_beside {l : Launch} (hl : l.stackTraces = false) : mm_Snd l yX9_beside (.code yX9_beside cX9_beside 6 (some .long)) 2 42 f_X9_beside := mm_met hl (plainFor_of_name (by decide +kernel)) (ok_X9_beside hl)
/-! Linkcourt$Ways.measure(IJJJ)V -/
noncomputable def tb_X9_measure : List (Nat × mm_I) := [(0, mm_ldR 1 0), (1, mm_gfR 4 9 0), (4, mm_ldJ 5 2), (5, mm_ldJ 7 4), (7, mm_clV 10 1 2 f_X1_reach), (10, mm_stJ 12 8), (12, mm_ldR 13 0), (13, mm_ldI 14 1), (14, mm_ldR 15 0), (15, mm_gfR 18 9 0), (18, mm_gfJ 21 1 10), (21, mm_k 24 (.int 1000)), (24, mm_clV 27 9 3 f_X9_note), (27, mm_ldR 28 0), (28, mm_ldI 29 1), (29, mm_ldJ 31 8), (31, mm_k 32 (.int 0)), (32, mm_clV 35 9 3 f_X9_note), (35, mm_k 36 (.int 1)), (36, mm_stI 38 10), (38, mm_ldI 40 10), (40, mm_k 42 (.int 36)), (42, mm_gt2 121 45), (45, mm_ldJ 46 2), (46, mm_ldR 47 0), (47, mm_ldJ 49 8), (49, mm_clV 52 9 1 f_X9_beside), (52, mm_l2 53 (fun a b => a ||| b)), (53, mm_ldJ 55 6), (55, mm_l2 56 (fun a b => a &&& b)), (56, mm_ldJ 58 8), (58, mm_k 61 (.long (-1))), (61, mm_l2 62 (fun a b => a ^^^ b)), (62, mm_l2 63 (fun a b => a &&& b)), (63, mm_stJ 65 11), (65, mm_ldJ 67 11), (67, mm_k 68 (.long 0)), (68, mm_cmp 69), (69, mm_ne1 73 72), (72, mm_rtV), (73, mm_ldR 74 0), (74, mm_gfR 77 9 0), (77, mm_ldJ 79 8), (79, mm_ldJ 81 11), (81, mm_l2 82 (fun a b => a ||| b)), (82, mm_ldJ 84 4), (84, mm_ldJ 86 8), (86, mm_l2 87 (fun a b => a ||| b)), (87, mm_ldJ 89 11), (89, mm_l2 90 (fun a b => a ||| b)), (90, mm_clV 93 1 2 f_X1_reach), (93, mm_stJ 95 13), (95, mm_ldR 96 0), (96, mm_ldI 97 1), (97, mm_ldJ 99 13), (99, mm_ldJ 101 8), (101, mm_k 104 (.long (-1))), (104, mm_l2 105 (fun a b => a ^^^ b)), (105, mm_l2 106 (fun a b => a &&& b)), (106, mm_ldI 108 10), (108, mm_clV 111 9 3 f_X9_note), (111, mm_ldJ 113 13), (113, mm_stJ 115 8), (115, mm_inc 118 10 1), (118, mm_go 38), (121, mm_rtV)]
noncomputable def f_X9_measure : mm_F := mm_do (mm_pr tb_X9_measure) 15
theorem mn_X9_measure : mm_alln tb_X9_measure := ⟨mm_n_ldR _ _, mm_n_gfR _ _ _, mm_n_ldJ _ _, mm_n_ldJ _ _, mm_n_clV _ _ _ (mo_X1_reach), mm_n_stJ _ _, mm_n_ldR _ _, mm_n_ldI _ _, mm_n_ldR _ _, mm_n_gfR _ _ _, mm_n_gfJ _ _ _, mm_n_k _ _, mm_n_clV _ _ _ (mo_X9_note), mm_n_ldR _ _, mm_n_ldI _ _, mm_n_ldJ _ _, mm_n_k _ _, mm_n_clV _ _ _ (mo_X9_note), mm_n_k _ _, mm_n_stI _ _, mm_n_ldI _ _, mm_n_k _ _, mm_n_gt2 _ _, mm_n_ldJ _ _, mm_n_ldR _ _, mm_n_ldJ _ _, mm_n_clV _ _ _ (mo_X9_beside), mm_n_l2 _ _, mm_n_ldJ _ _, mm_n_l2 _ _, mm_n_ldJ _ _, mm_n_k _ _, mm_n_l2 _ _, mm_n_l2 _ _, mm_n_stJ _ _, mm_n_ldJ _ _, mm_n_k _ _, mm_n_cmp _, mm_n_ne1 _ _, mm_n_rtV, mm_n_ldR _ _, mm_n_gfR _ _ _, mm_n_ldJ _ _, mm_n_ldJ _ _, mm_n_l2 _ _, mm_n_ldJ _ _, mm_n_ldJ _ _, mm_n_l2 _ _, mm_n_ldJ _ _, mm_n_l2 _ _, mm_n_clV _ _ _ (mo_X1_reach), mm_n_stJ _ _, mm_n_ldR _ _, mm_n_ldI _ _, mm_n_ldJ _ _, mm_n_ldJ _ _, mm_n_k _ _, mm_n_l2 _ _, mm_n_l2 _ _, mm_n_ldI _ _, mm_n_clV _ _ _ (mo_X9_note), mm_n_ldJ _ _, mm_n_stJ _ _, mm_n_inc _ _ _, mm_n_go _, mm_n_rtV, trivial⟩
theorem mo_X9_measure : mm_Mo f_X9_measure := mm_do_mo (mm_alln_mem mn_X9_measure)
set_option maxRecDepth 10000 in
theorem ok_X9_measure {l : Launch} (hl : l.stackTraces = false) : mm_Ok l yX9_measure cX9_measure 15 none 3 73 tb_X9_measure := by
  refine ⟨mm_alln_mem mn_X9_measure, fun p e cells slots s m args below meth c D tc A S ad Tg X hret hname htab hth => mm_allr_mem ?_⟩
  exact ⟨mm_r_aload_n X (show decode cX9_measure 0 = .ok (.aload_n 0, 1) by decide +kernel) rfl,
    mm_r_gfR X (ci := 9) (p := 0) (show mm_kd 9 0 = 2 by decide +kernel) rfl (Nat.le_of_ble_eq_true rfl) (show decode cX9_measure 1 = .ok (.getfield 15, 3) by decide +kernel) mw_324 rfl,
    mm_r_lload_n X (show decode cX9_measure 4 = .ok (.lload_n 2, 1) by decide +kernel) rfl,
    mm_r_lload X (show decode cX9_measure 5 = .ok (.lload 4, 2) by decide +kernel),
    mm_r_clV X hth (ci := 1) (na := 2) (sn_X1_reach hl) rfl (show decode cX9_measure 7 = .ok (.invokevirtual 57, 3) by decide +kernel) mw_226 mw_948 mw_224 mw_225 mw_45 hd_X1_reach ⟨(Nat.le_of_ble_eq_true rfl), (Nat.le_of_ble_eq_true rfl)⟩,
    mm_r_lstore X (show decode cX9_measure 10 = .ok (.lstore 8, 2) by decide +kernel) (Nat.le_of_ble_eq_true rfl),
    mm_r_aload_n X (show decode cX9_measure 12 = .ok (.aload_n 0, 1) by decide +kernel) rfl,
    mm_r_iload_n X (show decode cX9_measure 13 = .ok (.iload_n 1, 1) by decide +kernel) rfl,
    mm_r_aload_n X (show decode cX9_measure 14 = .ok (.aload_n 0, 1) by decide +kernel) rfl,
    mm_r_gfR X (ci := 9) (p := 0) (show mm_kd 9 0 = 2 by decide +kernel) rfl (Nat.le_of_ble_eq_true rfl) (show decode cX9_measure 15 = .ok (.getfield 15, 3) by decide +kernel) mw_324 rfl,
    mm_r_gfJ X (ci := 1) (p := 10) (show mm_kd 1 10 = 1 by decide +kernel) rfl (Nat.le_of_ble_eq_true rfl) (show decode cX9_measure 18 = .ok (.getfield 61, 3) by decide +kernel) mw_96 rfl,
    mm_r_sipush X (show decode cX9_measure 21 = .ok (.sipush 1000, 3) by decide +kernel) rfl,
    mm_r_clV X hth (ci := 9) (na := 3) (sn_X9_note hl) rfl (show decode cX9_measure 24 = .ok (.invokevirtual 65, 3) by decide +kernel) mw_952 mw_949 mw_951 mw_28 mw_51 hd_X9_note ⟨(Nat.le_of_ble_eq_true rfl), (Nat.le_of_ble_eq_true rfl)⟩,
    mm_r_aload_n X (show decode cX9_measure 27 = .ok (.aload_n 0, 1) by decide +kernel) rfl,
    mm_r_iload_n X (show decode cX9_measure 28 = .ok (.iload_n 1, 1) by decide +kernel) rfl,
    mm_r_lload X (show decode cX9_measure 29 = .ok (.lload 8, 2) by decide +kernel),
    mm_r_iconst X (show decode cX9_measure 31 = .ok (.iconst 0, 1) by decide +kernel) rfl,
    mm_r_clV X hth (ci := 9) (na := 3) (sn_X9_note hl) rfl (show decode cX9_measure 32 = .ok (.invokevirtual 65, 3) by decide +kernel) mw_952 mw_949 mw_951 mw_28 mw_51 hd_X9_note ⟨(Nat.le_of_ble_eq_true rfl), (Nat.le_of_ble_eq_true rfl)⟩,
    mm_r_iconst X (show decode cX9_measure 35 = .ok (.iconst 1, 1) by decide +kernel) rfl,
    mm_r_istore X (show decode cX9_measure 36 = .ok (.istore 10, 2) by decide +kernel) (Nat.le_of_ble_eq_true rfl),
    mm_r_iload X (show decode cX9_measure 38 = .ok (.iload 10, 2) by decide +kernel),
    mm_r_bipush X (show decode cX9_measure 40 = .ok (.bipush 36, 2) by decide +kernel) rfl,
    mm_r_gt2 X (show decode cX9_measure 42 = .ok (.if_icmp .gt 79, 3) by decide +kernel) (by decide),
    mm_r_lload_n X (show decode cX9_measure 45 = .ok (.lload_n 2, 1) by decide +kernel) rfl,
    mm_r_aload_n X (show decode cX9_measure 46 = .ok (.aload_n 0, 1) by decide +kernel) rfl,
    mm_r_lload X (show decode cX9_measure 47 = .ok (.lload 8, 2) by decide +kernel),
    mm_r_clV X hth (ci := 9) (na := 1) (sn_X9_beside hl) rfl (show decode cX9_measure 49 = .ok (.invokevirtual 69, 3) by decide +kernel) mw_957 mw_954 mw_956 mw_29 mw_51 hd_X9_beside ⟨(Nat.le_of_ble_eq_true rfl), (Nat.le_of_ble_eq_true rfl)⟩,
    mm_r_lor X (show decode cX9_measure 52 = .ok (.lor, 1) by decide +kernel),
    mm_r_lload X (show decode cX9_measure 53 = .ok (.lload 6, 2) by decide +kernel),
    mm_r_land X (show decode cX9_measure 55 = .ok (.land, 1) by decide +kernel),
    mm_r_lload X (show decode cX9_measure 56 = .ok (.lload 8, 2) by decide +kernel),
    mm_r_ldc2 X (show decode cX9_measure 58 = .ok (.ldc2_w 73, 3) by decide +kernel) mw_962,
    mm_r_lxor X (show decode cX9_measure 61 = .ok (.lxor, 1) by decide +kernel),
    mm_r_land X (show decode cX9_measure 62 = .ok (.land, 1) by decide +kernel),
    mm_r_lstore X (show decode cX9_measure 63 = .ok (.lstore 11, 2) by decide +kernel) (Nat.le_of_ble_eq_true rfl),
    mm_r_lload X (show decode cX9_measure 65 = .ok (.lload 11, 2) by decide +kernel),
    mm_r_lconst X (show decode cX9_measure 67 = .ok (.lconst 0, 1) by decide +kernel) rfl,
    mm_r_lcmp X (show decode cX9_measure 68 = .ok (.lcmp, 1) by decide +kernel),
    mm_r_ne1 X (show decode cX9_measure 69 = .ok (.ifCond .ne 4, 3) by decide +kernel) (by decide),
    mm_r_vret X hret (show decode cX9_measure 72 = .ok (.return_, 1) by decide +kernel),
    mm_r_aload_n X (show decode cX9_measure 73 = .ok (.aload_n 0, 1) by decide +kernel) rfl,
    mm_r_gfR X (ci := 9) (p := 0) (show mm_kd 9 0 = 2 by decide +kernel) rfl (Nat.le_of_ble_eq_true rfl) (show decode cX9_measure 74 = .ok (.getfield 15, 3) by decide +kernel) mw_324 rfl,
    mm_r_lload X (show decode cX9_measure 77 = .ok (.lload 8, 2) by decide +kernel),
    mm_r_lload X (show decode cX9_measure 79 = .ok (.lload 11, 2) by decide +kernel),
    mm_r_lor X (show decode cX9_measure 81 = .ok (.lor, 1) by decide +kernel),
    mm_r_lload X (show decode cX9_measure 82 = .ok (.lload 4, 2) by decide +kernel),
    mm_r_lload X (show decode cX9_measure 84 = .ok (.lload 8, 2) by decide +kernel),
    mm_r_lor X (show decode cX9_measure 86 = .ok (.lor, 1) by decide +kernel),
    mm_r_lload X (show decode cX9_measure 87 = .ok (.lload 11, 2) by decide +kernel),
    mm_r_lor X (show decode cX9_measure 89 = .ok (.lor, 1) by decide +kernel),
    mm_r_clV X hth (ci := 1) (na := 2) (sn_X1_reach hl) rfl (show decode cX9_measure 90 = .ok (.invokevirtual 57, 3) by decide +kernel) mw_226 mw_948 mw_224 mw_225 mw_45 hd_X1_reach ⟨(Nat.le_of_ble_eq_true rfl), (Nat.le_of_ble_eq_true rfl)⟩,
    mm_r_lstore X (show decode cX9_measure 93 = .ok (.lstore 13, 2) by decide +kernel) (Nat.le_of_ble_eq_true rfl),
    mm_r_aload_n X (show decode cX9_measure 95 = .ok (.aload_n 0, 1) by decide +kernel) rfl,
    mm_r_iload_n X (show decode cX9_measure 96 = .ok (.iload_n 1, 1) by decide +kernel) rfl,
    mm_r_lload X (show decode cX9_measure 97 = .ok (.lload 13, 2) by decide +kernel),
    mm_r_lload X (show decode cX9_measure 99 = .ok (.lload 8, 2) by decide +kernel),
    mm_r_ldc2 X (show decode cX9_measure 101 = .ok (.ldc2_w 73, 3) by decide +kernel) mw_962,
    mm_r_lxor X (show decode cX9_measure 104 = .ok (.lxor, 1) by decide +kernel),
    mm_r_land X (show decode cX9_measure 105 = .ok (.land, 1) by decide +kernel),
    mm_r_iload X (show decode cX9_measure 106 = .ok (.iload 10, 2) by decide +kernel),
    mm_r_clV X hth (ci := 9) (na := 3) (sn_X9_note hl) rfl (show decode cX9_measure 108 = .ok (.invokevirtual 65, 3) by decide +kernel) mw_952 mw_949 mw_951 mw_28 mw_51 hd_X9_note ⟨(Nat.le_of_ble_eq_true rfl), (Nat.le_of_ble_eq_true rfl)⟩,
    mm_r_lload X (show decode cX9_measure 111 = .ok (.lload 13, 2) by decide +kernel),
    mm_r_lstore X (show decode cX9_measure 113 = .ok (.lstore 8, 2) by decide +kernel) (Nat.le_of_ble_eq_true rfl),
    mm_r_iinc X (show decode cX9_measure 115 = .ok (.iinc 10 1, 3) by decide +kernel) rfl (Nat.le_of_ble_eq_true rfl),
    mm_r_goto X (show decode cX9_measure 118 = .ok (.goto (-80), 3) by decide +kernel) (by decide),
    mm_r_vret X hret (show decode cX9_measure 121 = .ok (.return_, 1) by decide +kernel), trivial⟩
theorem sn_X9_measure {l : Launch} (hl : l.stackTraces = false) : mm_Snd l yX9_measure (.code yX9_measure cX9_measure 15 none) 3 73 f_X9_measure := mm_met hl (plainFor_of_name (by decide +kernel)) (ok_X9_measure hl)
/-! Linkcourt$Ways.cost(II)I -/
noncomputable def tb_X9_cost : List (Nat × mm_I) := [(0, mm_ldI 1 1), (1, mm_k 3 (.int 36)), (3, mm_i2 4 (fun a b => a * b)), (4, mm_ldI 5 2), (5, mm_i2 6 (fun a b => a + b)), (6, mm_stI 7 3), (7, mm_ldI 8 3), (8, mm_lt1 29 11), (11, mm_ldI 12 3), (12, mm_ldR 13 0), (13, mm_gfR 16 9 1), (16, mm_aln 17 0), (17, mm_ge2 29 20), (20, mm_ldR 21 0), (21, mm_gfR 24 9 1), (24, mm_ldI 25 3), (25, mm_ald 26 0), (26, mm_go 32), (29, mm_k 32 (.int 1000)), (32, mm_rtI)]
noncomputable def f_X9_cost : mm_F := mm_do (mm_pr tb_X9_cost) 4
theorem mn_X9_cost : mm_alln tb_X9_cost := ⟨mm_n_ldI _ _, mm_n_k _ _, mm_n_i2 _ _, mm_n_ldI _ _, mm_n_i2 _ _, mm_n_stI _ _, mm_n_ldI _ _, mm_n_lt1 _ _, mm_n_ldI _ _, mm_n_ldR _ _, mm_n_gfR _ _ _, mm_n_aln _ _, mm_n_ge2 _ _, mm_n_ldR _ _, mm_n_gfR _ _ _, mm_n_ldI _ _, mm_n_ald _ _, mm_n_go _, mm_n_k _ _, mm_n_rtI, trivial⟩
theorem mo_X9_cost : mm_Mo f_X9_cost := mm_do_mo (mm_alln_mem mn_X9_cost)
set_option maxRecDepth 10000 in
theorem ok_X9_cost {l : Launch} (hl : l.stackTraces = false) : mm_Ok l yX9_cost cX9_cost 4 (some .int) 1 20 tb_X9_cost := by
  refine ⟨mm_alln_mem mn_X9_cost, fun p e cells slots s m args below meth c D tc A S ad Tg X hret hname htab hth => mm_allr_mem ?_⟩
  exact ⟨mm_r_iload_n X (show decode cX9_cost 0 = .ok (.iload_n 1, 1) by decide +kernel) rfl,
    mm_r_bipush X (show decode cX9_cost 1 = .ok (.bipush 36, 2) by decide +kernel) rfl,
    mm_r_imul X (show decode cX9_cost 3 = .ok (.imul, 1) by decide +kernel),
    mm_r_iload_n X (show decode cX9_cost 4 = .ok (.iload_n 2, 1) by decide +kernel) rfl,
    mm_r_iadd X (show decode cX9_cost 5 = .ok (.iadd, 1) by decide +kernel),
    mm_r_istore_n X (show decode cX9_cost 6 = .ok (.istore_n 3, 1) by decide +kernel) rfl (Nat.le_of_ble_eq_true rfl),
    mm_r_iload_n X (show decode cX9_cost 7 = .ok (.iload_n 3, 1) by decide +kernel) rfl,
    mm_r_lt1 X (show decode cX9_cost 8 = .ok (.ifCond .lt 21, 3) by decide +kernel) (by decide),
    mm_r_iload_n X (show decode cX9_cost 11 = .ok (.iload_n 3, 1) by decide +kernel) rfl,
    mm_r_aload_n X (show decode cX9_cost 12 = .ok (.aload_n 0, 1) by decide +kernel) rfl,
    mm_r_gfR X (ci := 9) (p := 1) (show mm_kd 9 1 = 2 by decide +kernel) rfl (Nat.le_of_ble_eq_true rfl) (show decode cX9_cost 13 = .ok (.getfield 11, 3) by decide +kernel) mw_325 rfl,
    mm_r_aln X (t := 0) (Nat.le_of_ble_eq_true rfl) (show decode cX9_cost 16 = .ok (.arraylength, 1) by decide +kernel),
    mm_r_ge2 X (show decode cX9_cost 17 = .ok (.if_icmp .ge 12, 3) by decide +kernel) (by decide),
    mm_r_aload_n X (show decode cX9_cost 20 = .ok (.aload_n 0, 1) by decide +kernel) rfl,
    mm_r_gfR X (ci := 9) (p := 1) (show mm_kd 9 1 = 2 by decide +kernel) rfl (Nat.le_of_ble_eq_true rfl) (show decode cX9_cost 21 = .ok (.getfield 11, 3) by decide +kernel) mw_325 rfl,
    mm_r_iload_n X (show decode cX9_cost 24 = .ok (.iload_n 3, 1) by decide +kernel) rfl,
    mm_r_iald X (show decode cX9_cost 25 = .ok (.iaload, 1) by decide +kernel),
    mm_r_goto X (show decode cX9_cost 26 = .ok (.goto 6, 3) by decide +kernel) (by decide),
    mm_r_sipush X (show decode cX9_cost 29 = .ok (.sipush 1000, 3) by decide +kernel) rfl,
    mm_r_iret X hret (show decode cX9_cost 32 = .ok (.ireturn, 1) by decide +kernel), trivial⟩
theorem sn_X9_cost {l : Launch} (hl : l.stackTraces = false) : mm_Snd l yX9_cost (.code yX9_cost cX9_cost 4 (some .int)) 1 20 f_X9_cost := mm_met hl (plainFor_of_name (by decide +kernel)) (ok_X9_cost hl)
/-! Linkcourt$Ways.fewestToThree(JJ)I -/
noncomputable def tb_X9_fewestToThree : List (Nat × mm_I) := [(0, mm_k 1 (.int 0)), (1, mm_stI 3 5), (3, mm_ldI 5 5), (5, mm_k 6 (.int 3)), (6, mm_ge2 32 9), (9, mm_ldR 10 0), (10, mm_ldI 12 5), (12, mm_ldR 13 0), (13, mm_gfR 16 9 0), (16, mm_ldI 18 5), (18, mm_clV 21 1 1 f_X1_side), (21, mm_ldJ 22 1), (22, mm_ldJ 23 3), (23, mm_clV 26 9 4 f_X9_measure), (26, mm_inc 29 5 1), (29, mm_go 3), (32, mm_k 35 (.int 1000)), (35, mm_stI 37 5), (37, mm_k 38 (.int 0)), (38, mm_stI 40 6), (40, mm_ldI 42 6), (42, mm_ldR 43 0), (43, mm_gfR 46 9 0), (46, mm_gfI 49 1 8), (49, mm_ge2 108 52), (52, mm_ldR 53 0), (53, mm_k 54 (.int 0)), (54, mm_ldI 56 6), (56, mm_clV 59 9 2 f_X9_cost), (59, mm_ldR 60 0), (60, mm_k 61 (.int 1)), (61, mm_ldI 63 6), (63, mm_clV 66 9 2 f_X9_cost), (66, mm_i2 67 (fun a b => a + b)), (67, mm_ldR 68 0), (68, mm_k 69 (.int 2)), (69, mm_ldI 71 6), (71, mm_clV 74 9 2 f_X9_cost), (74, mm_i2 75 (fun a b => a + b)), (75, mm_stI 77 7), (77, mm_ldI 79 5), (79, mm_ldJ 80 3), (80, mm_ldI 82 6), (82, mm_clS 85 2 f_X10_has), (85, mm_eq1 95 88), (88, mm_ldI 90 7), (90, mm_k 91 (.int 2)), (91, mm_i2 92 (fun a b => a - b)), (92, mm_go 97), (95, mm_ldI 97 7), (97, mm_clS 100 2 f_J9_min_7cf53), (100, mm_stI 102 5), (102, mm_inc 105 6 1), (105, mm_go 40), (108, mm_ldI 110 5), (110, mm_rtI)]
noncomputable def f_X9_fewestToThree : mm_F := mm_do (mm_pr tb_X9_fewestToThree) 8
theorem mn_X9_fewestToThree : mm_alln tb_X9_fewestToThree := ⟨mm_n_k _ _, mm_n_stI _ _, mm_n_ldI _ _, mm_n_k _ _, mm_n_ge2 _ _, mm_n_ldR _ _, mm_n_ldI _ _, mm_n_ldR _ _, mm_n_gfR _ _ _, mm_n_ldI _ _, mm_n_clV _ _ _ (mo_X1_side), mm_n_ldJ _ _, mm_n_ldJ _ _, mm_n_clV _ _ _ (mo_X9_measure), mm_n_inc _ _ _, mm_n_go _, mm_n_k _ _, mm_n_stI _ _, mm_n_k _ _, mm_n_stI _ _, mm_n_ldI _ _, mm_n_ldR _ _, mm_n_gfR _ _ _, mm_n_gfI _ _ _, mm_n_ge2 _ _, mm_n_ldR _ _, mm_n_k _ _, mm_n_ldI _ _, mm_n_clV _ _ _ (mo_X9_cost), mm_n_ldR _ _, mm_n_k _ _, mm_n_ldI _ _, mm_n_clV _ _ _ (mo_X9_cost), mm_n_i2 _ _, mm_n_ldR _ _, mm_n_k _ _, mm_n_ldI _ _, mm_n_clV _ _ _ (mo_X9_cost), mm_n_i2 _ _, mm_n_stI _ _, mm_n_ldI _ _, mm_n_ldJ _ _, mm_n_ldI _ _, mm_n_clS _ _ (mo_X10_has), mm_n_eq1 _ _, mm_n_ldI _ _, mm_n_k _ _, mm_n_i2 _ _, mm_n_go _, mm_n_ldI _ _, mm_n_clS _ _ (mo_J9_min_7cf53), mm_n_stI _ _, mm_n_inc _ _ _, mm_n_go _, mm_n_ldI _ _, mm_n_rtI, trivial⟩
theorem mo_X9_fewestToThree : mm_Mo f_X9_fewestToThree := mm_do_mo (mm_alln_mem mn_X9_fewestToThree)
set_option maxRecDepth 10000 in
theorem ok_X9_fewestToThree {l : Launch} (hl : l.stackTraces = false) : mm_Ok l yX9_fewestToThree cX9_fewestToThree 8 (some .int) 4 107 tb_X9_fewestToThree := by
  refine ⟨mm_alln_mem mn_X9_fewestToThree, fun p e cells slots s m args below meth c D tc A S ad Tg X hret hname htab hth => mm_allr_mem ?_⟩
  exact ⟨mm_r_iconst X (show decode cX9_fewestToThree 0 = .ok (.iconst 0, 1) by decide +kernel) rfl,
    mm_r_istore X (show decode cX9_fewestToThree 1 = .ok (.istore 5, 2) by decide +kernel) (Nat.le_of_ble_eq_true rfl),
    mm_r_iload X (show decode cX9_fewestToThree 3 = .ok (.iload 5, 2) by decide +kernel),
    mm_r_iconst X (show decode cX9_fewestToThree 5 = .ok (.iconst 3, 1) by decide +kernel) rfl,
    mm_r_ge2 X (show decode cX9_fewestToThree 6 = .ok (.if_icmp .ge 26, 3) by decide +kernel) (by decide),
    mm_r_aload_n X (show decode cX9_fewestToThree 9 = .ok (.aload_n 0, 1) by decide +kernel) rfl,
    mm_r_iload X (show decode cX9_fewestToThree 10 = .ok (.iload 5, 2) by decide +kernel),
    mm_r_aload_n X (show decode cX9_fewestToThree 12 = .ok (.aload_n 0, 1) by decide +kernel) rfl,
    mm_r_gfR X (ci := 9) (p := 0) (show mm_kd 9 0 = 2 by decide +kernel) rfl (Nat.le_of_ble_eq_true rfl) (show decode cX9_fewestToThree 13 = .ok (.getfield 15, 3) by decide +kernel) mw_324 rfl,
    mm_r_iload X (show decode cX9_fewestToThree 16 = .ok (.iload 5, 2) by decide +kernel),
    mm_r_clV X hth (ci := 1) (na := 1) (sn_X1_side hl) rfl (show decode cX9_fewestToThree 18 = .ok (.invokevirtual 33, 3) by decide +kernel) mw_222 mw_943 mw_220 mw_221 mw_45 hd_X1_side ⟨(Nat.le_of_ble_eq_true rfl), (Nat.le_of_ble_eq_true rfl)⟩,
    mm_r_lload_n X (show decode cX9_fewestToThree 21 = .ok (.lload_n 1, 1) by decide +kernel) rfl,
    mm_r_lload_n X (show decode cX9_fewestToThree 22 = .ok (.lload_n 3, 1) by decide +kernel) rfl,
    mm_r_clV X hth (ci := 9) (na := 4) (sn_X9_measure hl) rfl (show decode cX9_fewestToThree 23 = .ok (.invokevirtual 37, 3) by decide +kernel) mw_947 mw_944 mw_946 mw_27 mw_51 hd_X9_measure ⟨(Nat.le_of_ble_eq_true rfl), (Nat.le_of_ble_eq_true rfl)⟩,
    mm_r_iinc X (show decode cX9_fewestToThree 26 = .ok (.iinc 5 1, 3) by decide +kernel) rfl (Nat.le_of_ble_eq_true rfl),
    mm_r_goto X (show decode cX9_fewestToThree 29 = .ok (.goto (-26), 3) by decide +kernel) (by decide),
    mm_r_sipush X (show decode cX9_fewestToThree 32 = .ok (.sipush 1000, 3) by decide +kernel) rfl,
    mm_r_istore X (show decode cX9_fewestToThree 35 = .ok (.istore 5, 2) by decide +kernel) (Nat.le_of_ble_eq_true rfl),
    mm_r_iconst X (show decode cX9_fewestToThree 37 = .ok (.iconst 0, 1) by decide +kernel) rfl,
    mm_r_istore X (show decode cX9_fewestToThree 38 = .ok (.istore 6, 2) by decide +kernel) (Nat.le_of_ble_eq_true rfl),
    mm_r_iload X (show decode cX9_fewestToThree 40 = .ok (.iload 6, 2) by decide +kernel),
    mm_r_aload_n X (show decode cX9_fewestToThree 42 = .ok (.aload_n 0, 1) by decide +kernel) rfl,
    mm_r_gfR X (ci := 9) (p := 0) (show mm_kd 9 0 = 2 by decide +kernel) rfl (Nat.le_of_ble_eq_true rfl) (show decode cX9_fewestToThree 43 = .ok (.getfield 15, 3) by decide +kernel) mw_324 rfl,
    mm_r_gfI X (ci := 1) (p := 8) (show mm_kd 1 8 = 0 by decide +kernel) rfl (Nat.le_of_ble_eq_true rfl) (show decode cX9_fewestToThree 46 = .ok (.getfield 41, 3) by decide +kernel) mw_91 rfl,
    mm_r_ge2 X (show decode cX9_fewestToThree 49 = .ok (.if_icmp .ge 59, 3) by decide +kernel) (by decide),
    mm_r_aload_n X (show decode cX9_fewestToThree 52 = .ok (.aload_n 0, 1) by decide +kernel) rfl,
    mm_r_iconst X (show decode cX9_fewestToThree 53 = .ok (.iconst 0, 1) by decide +kernel) rfl,
    mm_r_iload X (show decode cX9_fewestToThree 54 = .ok (.iload 6, 2) by decide +kernel),
    mm_r_clV X hth (ci := 9) (na := 2) (sn_X9_cost hl) rfl (show decode cX9_fewestToThree 56 = .ok (.invokevirtual 48, 3) by decide +kernel) mw_966 mw_963 mw_965 mw_30 mw_51 hd_X9_cost ⟨(Nat.le_of_ble_eq_true rfl), (Nat.le_of_ble_eq_true rfl)⟩,
    mm_r_aload_n X (show decode cX9_fewestToThree 59 = .ok (.aload_n 0, 1) by decide +kernel) rfl,
    mm_r_iconst X (show decode cX9_fewestToThree 60 = .ok (.iconst 1, 1) by decide +kernel) rfl,
    mm_r_iload X (show decode cX9_fewestToThree 61 = .ok (.iload 6, 2) by decide +kernel),
    mm_r_clV X hth (ci := 9) (na := 2) (sn_X9_cost hl) rfl (show decode cX9_fewestToThree 63 = .ok (.invokevirtual 48, 3) by decide +kernel) mw_966 mw_963 mw_965 mw_30 mw_51 hd_X9_cost ⟨(Nat.le_of_ble_eq_true rfl), (Nat.le_of_ble_eq_true rfl)⟩,
    mm_r_iadd X (show decode cX9_fewestToThree 66 = .ok (.iadd, 1) by decide +kernel),
    mm_r_aload_n X (show decode cX9_fewestToThree 67 = .ok (.aload_n 0, 1) by decide +kernel) rfl,
    mm_r_iconst X (show decode cX9_fewestToThree 68 = .ok (.iconst 2, 1) by decide +kernel) rfl,
    mm_r_iload X (show decode cX9_fewestToThree 69 = .ok (.iload 6, 2) by decide +kernel),
    mm_r_clV X hth (ci := 9) (na := 2) (sn_X9_cost hl) rfl (show decode cX9_fewestToThree 71 = .ok (.invokevirtual 48, 3) by decide +kernel) mw_966 mw_963 mw_965 mw_30 mw_51 hd_X9_cost ⟨(Nat.le_of_ble_eq_true rfl), (Nat.le_of_ble_eq_true rfl)⟩,
    mm_r_iadd X (show decode cX9_fewestToThree 74 = .ok (.iadd, 1) by decide +kernel),
    mm_r_istore X (show decode cX9_fewestToThree 75 = .ok (.istore 7, 2) by decide +kernel) (Nat.le_of_ble_eq_true rfl),
    mm_r_iload X (show decode cX9_fewestToThree 77 = .ok (.iload 5, 2) by decide +kernel),
    mm_r_lload_n X (show decode cX9_fewestToThree 79 = .ok (.lload_n 3, 1) by decide +kernel) rfl,
    mm_r_iload X (show decode cX9_fewestToThree 80 = .ok (.iload 6, 2) by decide +kernel),
    mm_r_clSN X hth (na := 2) (sn_X10_has hl) (show decode cX9_fewestToThree 82 = .ok (.invokestatic 44, 3) by decide +kernel) mw_593 (show ("Linkcourt$Ways", 44, yX10_has) ∈ mm_nest by decide +kernel) mw_592 mw_44 hd_X10_has.2 ⟨(Nat.le_of_ble_eq_true rfl), (Nat.le_of_ble_eq_true rfl)⟩,
    mm_r_eq1 X (show decode cX9_fewestToThree 85 = .ok (.ifCond .eq 10, 3) by decide +kernel) (by decide),
    mm_r_iload X (show decode cX9_fewestToThree 88 = .ok (.iload 7, 2) by decide +kernel),
    mm_r_iconst X (show decode cX9_fewestToThree 90 = .ok (.iconst 2, 1) by decide +kernel) rfl,
    mm_r_isub X (show decode cX9_fewestToThree 91 = .ok (.isub, 1) by decide +kernel),
    mm_r_goto X (show decode cX9_fewestToThree 92 = .ok (.goto 5, 3) by decide +kernel) (by decide),
    mm_r_iload X (show decode cX9_fewestToThree 95 = .ok (.iload 7, 2) by decide +kernel),
    mm_r_clS X hth (na := 2) (sn_J9_min_7cf53 hl) (show decode cX9_fewestToThree 97 = .ok (.invokestatic 52, 3) by decide +kernel) mw_969 mw_967 mw_968 mw_63 hd_J9_min_7cf53.2 ⟨(Nat.le_of_ble_eq_true rfl), (Nat.le_of_ble_eq_true rfl)⟩,
    mm_r_istore X (show decode cX9_fewestToThree 100 = .ok (.istore 5, 2) by decide +kernel) (Nat.le_of_ble_eq_true rfl),
    mm_r_iinc X (show decode cX9_fewestToThree 102 = .ok (.iinc 6 1, 3) by decide +kernel) rfl (Nat.le_of_ble_eq_true rfl),
    mm_r_goto X (show decode cX9_fewestToThree 105 = .ok (.goto (-65), 3) by decide +kernel) (by decide),
    mm_r_iload X (show decode cX9_fewestToThree 108 = .ok (.iload 5, 2) by decide +kernel),
    mm_r_iret X hret (show decode cX9_fewestToThree 110 = .ok (.ireturn, 1) by decide +kernel), trivial⟩
theorem sn_X9_fewestToThree {l : Launch} (hl : l.stackTraces = false) : mm_Snd l yX9_fewestToThree (.code yX9_fewestToThree cX9_fewestToThree 8 (some .int)) 4 107 f_X9_fewestToThree := mm_met hl (plainFor_of_name (by decide +kernel)) (ok_X9_fewestToThree hl)
/-! Linkcourt$Ways.fewestToTwo(IIJJ)I -/
noncomputable def tb_X9_fewestToTwo : List (Nat × mm_I) := [(0, mm_ldR 1 0), (1, mm_k 2 (.int 0)), (2, mm_ldR 3 0), (3, mm_gfR 6 9 0), (6, mm_ldI 7 1), (7, mm_clV 10 1 1 f_X1_side), (10, mm_ldJ 11 3), (11, mm_ldJ 13 5), (13, mm_clV 16 9 4 f_X9_measure), (16, mm_k 19 (.int 1000)), (19, mm_stI 21 7), (21, mm_k 22 (.int 0)), (22, mm_stI 24 8), (24, mm_ldI 26 8), (26, mm_ldR 27 0), (27, mm_gfR 30 9 0), (30, mm_gfI 33 1 8), (33, mm_ge2 72 36), (36, mm_ldR 37 0), (37, mm_gfR 40 9 0), (40, mm_ldI 41 2), (41, mm_clV 44 1 1 f_X1_side), (44, mm_ldI 46 8), (46, mm_clS 49 2 f_X10_has), (49, mm_eq1 66 52), (52, mm_ldI 54 7), (54, mm_ldR 55 0), (55, mm_k 56 (.int 0)), (56, mm_ldI 58 8), (58, mm_clV 61 9 2 f_X9_cost), (61, mm_clS 64 2 f_J9_min_7cf53), (64, mm_stI 66 7), (66, mm_inc 69 8 1), (69, mm_go 24), (72, mm_ldI 74 7), (74, mm_rtI)]
noncomputable def f_X9_fewestToTwo : mm_F := mm_do (mm_pr tb_X9_fewestToTwo) 9
theorem mn_X9_fewestToTwo : mm_alln tb_X9_fewestToTwo := ⟨mm_n_ldR _ _, mm_n_k _ _, mm_n_ldR _ _, mm_n_gfR _ _ _, mm_n_ldI _ _, mm_n_clV _ _ _ (mo_X1_side), mm_n_ldJ _ _, mm_n_ldJ _ _, mm_n_clV _ _ _ (mo_X9_measure), mm_n_k _ _, mm_n_stI _ _, mm_n_k _ _, mm_n_stI _ _, mm_n_ldI _ _, mm_n_ldR _ _, mm_n_gfR _ _ _, mm_n_gfI _ _ _, mm_n_ge2 _ _, mm_n_ldR _ _, mm_n_gfR _ _ _, mm_n_ldI _ _, mm_n_clV _ _ _ (mo_X1_side), mm_n_ldI _ _, mm_n_clS _ _ (mo_X10_has), mm_n_eq1 _ _, mm_n_ldI _ _, mm_n_ldR _ _, mm_n_k _ _, mm_n_ldI _ _, mm_n_clV _ _ _ (mo_X9_cost), mm_n_clS _ _ (mo_J9_min_7cf53), mm_n_stI _ _, mm_n_inc _ _ _, mm_n_go _, mm_n_ldI _ _, mm_n_rtI, trivial⟩
theorem mo_X9_fewestToTwo : mm_Mo f_X9_fewestToTwo := mm_do_mo (mm_alln_mem mn_X9_fewestToTwo)
set_option maxRecDepth 10000 in
theorem ok_X9_fewestToTwo {l : Launch} (hl : l.stackTraces = false) : mm_Ok l yX9_fewestToTwo cX9_fewestToTwo 9 (some .int) 4 107 tb_X9_fewestToTwo := by
  refine ⟨mm_alln_mem mn_X9_fewestToTwo, fun p e cells slots s m args below meth c D tc A S ad Tg X hret hname htab hth => mm_allr_mem ?_⟩
  exact ⟨mm_r_aload_n X (show decode cX9_fewestToTwo 0 = .ok (.aload_n 0, 1) by decide +kernel) rfl,
    mm_r_iconst X (show decode cX9_fewestToTwo 1 = .ok (.iconst 0, 1) by decide +kernel) rfl,
    mm_r_aload_n X (show decode cX9_fewestToTwo 2 = .ok (.aload_n 0, 1) by decide +kernel) rfl,
    mm_r_gfR X (ci := 9) (p := 0) (show mm_kd 9 0 = 2 by decide +kernel) rfl (Nat.le_of_ble_eq_true rfl) (show decode cX9_fewestToTwo 3 = .ok (.getfield 15, 3) by decide +kernel) mw_324 rfl,
    mm_r_iload_n X (show decode cX9_fewestToTwo 6 = .ok (.iload_n 1, 1) by decide +kernel) rfl,
    mm_r_clV X hth (ci := 1) (na := 1) (sn_X1_side hl) rfl (show decode cX9_fewestToTwo 7 = .ok (.invokevirtual 33, 3) by decide +kernel) mw_222 mw_943 mw_220 mw_221 mw_45 hd_X1_side ⟨(Nat.le_of_ble_eq_true rfl), (Nat.le_of_ble_eq_true rfl)⟩,
    mm_r_lload_n X (show decode cX9_fewestToTwo 10 = .ok (.lload_n 3, 1) by decide +kernel) rfl,
    mm_r_lload X (show decode cX9_fewestToTwo 11 = .ok (.lload 5, 2) by decide +kernel),
    mm_r_clV X hth (ci := 9) (na := 4) (sn_X9_measure hl) rfl (show decode cX9_fewestToTwo 13 = .ok (.invokevirtual 37, 3) by decide +kernel) mw_947 mw_944 mw_946 mw_27 mw_51 hd_X9_measure ⟨(Nat.le_of_ble_eq_true rfl), (Nat.le_of_ble_eq_true rfl)⟩,
    mm_r_sipush X (show decode cX9_fewestToTwo 16 = .ok (.sipush 1000, 3) by decide +kernel) rfl,
    mm_r_istore X (show decode cX9_fewestToTwo 19 = .ok (.istore 7, 2) by decide +kernel) (Nat.le_of_ble_eq_true rfl),
    mm_r_iconst X (show decode cX9_fewestToTwo 21 = .ok (.iconst 0, 1) by decide +kernel) rfl,
    mm_r_istore X (show decode cX9_fewestToTwo 22 = .ok (.istore 8, 2) by decide +kernel) (Nat.le_of_ble_eq_true rfl),
    mm_r_iload X (show decode cX9_fewestToTwo 24 = .ok (.iload 8, 2) by decide +kernel),
    mm_r_aload_n X (show decode cX9_fewestToTwo 26 = .ok (.aload_n 0, 1) by decide +kernel) rfl,
    mm_r_gfR X (ci := 9) (p := 0) (show mm_kd 9 0 = 2 by decide +kernel) rfl (Nat.le_of_ble_eq_true rfl) (show decode cX9_fewestToTwo 27 = .ok (.getfield 15, 3) by decide +kernel) mw_324 rfl,
    mm_r_gfI X (ci := 1) (p := 8) (show mm_kd 1 8 = 0 by decide +kernel) rfl (Nat.le_of_ble_eq_true rfl) (show decode cX9_fewestToTwo 30 = .ok (.getfield 41, 3) by decide +kernel) mw_91 rfl,
    mm_r_ge2 X (show decode cX9_fewestToTwo 33 = .ok (.if_icmp .ge 39, 3) by decide +kernel) (by decide),
    mm_r_aload_n X (show decode cX9_fewestToTwo 36 = .ok (.aload_n 0, 1) by decide +kernel) rfl,
    mm_r_gfR X (ci := 9) (p := 0) (show mm_kd 9 0 = 2 by decide +kernel) rfl (Nat.le_of_ble_eq_true rfl) (show decode cX9_fewestToTwo 37 = .ok (.getfield 15, 3) by decide +kernel) mw_324 rfl,
    mm_r_iload_n X (show decode cX9_fewestToTwo 40 = .ok (.iload_n 2, 1) by decide +kernel) rfl,
    mm_r_clV X hth (ci := 1) (na := 1) (sn_X1_side hl) rfl (show decode cX9_fewestToTwo 41 = .ok (.invokevirtual 33, 3) by decide +kernel) mw_222 mw_943 mw_220 mw_221 mw_45 hd_X1_side ⟨(Nat.le_of_ble_eq_true rfl), (Nat.le_of_ble_eq_true rfl)⟩,
    mm_r_iload X (show decode cX9_fewestToTwo 44 = .ok (.iload 8, 2) by decide +kernel),
    mm_r_clSN X hth (na := 2) (sn_X10_has hl) (show decode cX9_fewestToTwo 46 = .ok (.invokestatic 44, 3) by decide +kernel) mw_593 (show ("Linkcourt$Ways", 44, yX10_has) ∈ mm_nest by decide +kernel) mw_592 mw_44 hd_X10_has.2 ⟨(Nat.le_of_ble_eq_true rfl), (Nat.le_of_ble_eq_true rfl)⟩,
    mm_r_eq1 X (show decode cX9_fewestToTwo 49 = .ok (.ifCond .eq 17, 3) by decide +kernel) (by decide),
    mm_r_iload X (show decode cX9_fewestToTwo 52 = .ok (.iload 7, 2) by decide +kernel),
    mm_r_aload_n X (show decode cX9_fewestToTwo 54 = .ok (.aload_n 0, 1) by decide +kernel) rfl,
    mm_r_iconst X (show decode cX9_fewestToTwo 55 = .ok (.iconst 0, 1) by decide +kernel) rfl,
    mm_r_iload X (show decode cX9_fewestToTwo 56 = .ok (.iload 8, 2) by decide +kernel),
    mm_r_clV X hth (ci := 9) (na := 2) (sn_X9_cost hl) rfl (show decode cX9_fewestToTwo 58 = .ok (.invokevirtual 48, 3) by decide +kernel) mw_966 mw_963 mw_965 mw_30 mw_51 hd_X9_cost ⟨(Nat.le_of_ble_eq_true rfl), (Nat.le_of_ble_eq_true rfl)⟩,
    mm_r_clS X hth (na := 2) (sn_J9_min_7cf53 hl) (show decode cX9_fewestToTwo 61 = .ok (.invokestatic 52, 3) by decide +kernel) mw_969 mw_967 mw_968 mw_63 hd_J9_min_7cf53.2 ⟨(Nat.le_of_ble_eq_true rfl), (Nat.le_of_ble_eq_true rfl)⟩,
    mm_r_istore X (show decode cX9_fewestToTwo 64 = .ok (.istore 7, 2) by decide +kernel) (Nat.le_of_ble_eq_true rfl),
    mm_r_iinc X (show decode cX9_fewestToTwo 66 = .ok (.iinc 8 1, 3) by decide +kernel) rfl (Nat.le_of_ble_eq_true rfl),
    mm_r_goto X (show decode cX9_fewestToTwo 69 = .ok (.goto (-45), 3) by decide +kernel) (by decide),
    mm_r_iload X (show decode cX9_fewestToTwo 72 = .ok (.iload 7, 2) by decide +kernel),
    mm_r_iret X hret (show decode cX9_fewestToTwo 74 = .ok (.ireturn, 1) by decide +kernel), trivial⟩
theorem sn_X9_fewestToTwo {l : Launch} (hl : l.stackTraces = false) : mm_Snd l yX9_fewestToTwo (.code yX9_fewestToTwo cX9_fewestToTwo 9 (some .int)) 4 107 f_X9_fewestToTwo := mm_met hl (plainFor_of_name (by decide +kernel)) (ok_X9_fewestToTwo hl)
/-! Linkcourt$Ways.fewest(IJJ)I -/
noncomputable def tb_X9_fewest : List (Nat × mm_I) := [(0, mm_ldR 1 0), (1, mm_gfR 4 9 0), (4, mm_gfI 7 1 7), (7, mm_k 8 (.int 1)), (8, mm_ne2 21 11), (11, mm_ldR 12 0), (12, mm_ldJ 13 2), (13, mm_ldJ 15 4), (15, mm_clV 18 9 2 f_X9_fewestToThree), (18, mm_go 46), (21, mm_ldI 22 1), (22, mm_ne1 37 25), (25, mm_ldR 26 0), (26, mm_k 27 (.int 0)), (27, mm_k 28 (.int 1)), (28, mm_ldJ 29 2), (29, mm_ldJ 31 4), (31, mm_clV 34 9 4 f_X9_fewestToTwo), (34, mm_go 46), (37, mm_ldR 38 0), (38, mm_k 39 (.int 2)), (39, mm_k 40 (.int 3)), (40, mm_ldJ 41 2), (41, mm_ldJ 43 4), (43, mm_clV 46 9 4 f_X9_fewestToTwo), (46, mm_stI 48 6), (48, mm_ldI 50 6), (50, mm_k 53 (.int 1000)), (53, mm_ge2 61 56), (56, mm_ldI 58 6), (58, mm_go 62), (61, mm_k 62 (.int (-1))), (62, mm_rtI)]
noncomputable def f_X9_fewest : mm_F := mm_do (mm_pr tb_X9_fewest) 7
theorem mn_X9_fewest : mm_alln tb_X9_fewest := ⟨mm_n_ldR _ _, mm_n_gfR _ _ _, mm_n_gfI _ _ _, mm_n_k _ _, mm_n_ne2 _ _, mm_n_ldR _ _, mm_n_ldJ _ _, mm_n_ldJ _ _, mm_n_clV _ _ _ (mo_X9_fewestToThree), mm_n_go _, mm_n_ldI _ _, mm_n_ne1 _ _, mm_n_ldR _ _, mm_n_k _ _, mm_n_k _ _, mm_n_ldJ _ _, mm_n_ldJ _ _, mm_n_clV _ _ _ (mo_X9_fewestToTwo), mm_n_go _, mm_n_ldR _ _, mm_n_k _ _, mm_n_k _ _, mm_n_ldJ _ _, mm_n_ldJ _ _, mm_n_clV _ _ _ (mo_X9_fewestToTwo), mm_n_stI _ _, mm_n_ldI _ _, mm_n_k _ _, mm_n_ge2 _ _, mm_n_ldI _ _, mm_n_go _, mm_n_k _ _, mm_n_rtI, trivial⟩
theorem mo_X9_fewest : mm_Mo f_X9_fewest := mm_do_mo (mm_alln_mem mn_X9_fewest)
set_option maxRecDepth 10000 in
theorem ok_X9_fewest {l : Launch} (hl : l.stackTraces = false) : mm_Ok l yX9_fewest cX9_fewest 7 (some .int) 5 135 tb_X9_fewest := by
  refine ⟨mm_alln_mem mn_X9_fewest, fun p e cells slots s m args below meth c D tc A S ad Tg X hret hname htab hth => mm_allr_mem ?_⟩
  exact ⟨mm_r_aload_n X (show decode cX9_fewest 0 = .ok (.aload_n 0, 1) by decide +kernel) rfl,
    mm_r_gfR X (ci := 9) (p := 0) (show mm_kd 9 0 = 2 by decide +kernel) rfl (Nat.le_of_ble_eq_true rfl) (show decode cX9_fewest 1 = .ok (.getfield 15, 3) by decide +kernel) mw_324 rfl,
    mm_r_gfI X (ci := 1) (p := 7) (show mm_kd 1 7 = 0 by decide +kernel) rfl (Nat.le_of_ble_eq_true rfl) (show decode cX9_fewest 4 = .ok (.getfield 19, 3) by decide +kernel) mw_87 rfl,
    mm_r_iconst X (show decode cX9_fewest 7 = .ok (.iconst 1, 1) by decide +kernel) rfl,
    mm_r_ne2 X (show decode cX9_fewest 8 = .ok (.if_icmp .ne 13, 3) by decide +kernel) (by decide),
    mm_r_aload_n X (show decode cX9_fewest 11 = .ok (.aload_n 0, 1) by decide +kernel) rfl,
    mm_r_lload_n X (show decode cX9_fewest 12 = .ok (.lload_n 2, 1) by decide +kernel) rfl,
    mm_r_lload X (show decode cX9_fewest 13 = .ok (.lload 4, 2) by decide +kernel),
    mm_r_clV X hth (ci := 9) (na := 2) (sn_X9_fewestToThree hl) rfl (show decode cX9_fewest 15 = .ok (.invokevirtual 25, 3) by decide +kernel) mw_942 mw_939 mw_941 mw_26 mw_51 hd_X9_fewestToThree ⟨(Nat.le_of_ble_eq_true rfl), (Nat.le_of_ble_eq_true rfl)⟩,
    mm_r_goto X (show decode cX9_fewest 18 = .ok (.goto 28, 3) by decide +kernel) (by decide),
    mm_r_iload_n X (show decode cX9_fewest 21 = .ok (.iload_n 1, 1) by decide +kernel) rfl,
    mm_r_ne1 X (show decode cX9_fewest 22 = .ok (.ifCond .ne 15, 3) by decide +kernel) (by decide),
    mm_r_aload_n X (show decode cX9_fewest 25 = .ok (.aload_n 0, 1) by decide +kernel) rfl,
    mm_r_iconst X (show decode cX9_fewest 26 = .ok (.iconst 0, 1) by decide +kernel) rfl,
    mm_r_iconst X (show decode cX9_fewest 27 = .ok (.iconst 1, 1) by decide +kernel) rfl,
    mm_r_lload_n X (show decode cX9_fewest 28 = .ok (.lload_n 2, 1) by decide +kernel) rfl,
    mm_r_lload X (show decode cX9_fewest 29 = .ok (.lload 4, 2) by decide +kernel),
    mm_r_clV X hth (ci := 9) (na := 4) (sn_X9_fewestToTwo hl) rfl (show decode cX9_fewest 31 = .ok (.invokevirtual 29, 3) by decide +kernel) mw_973 mw_970 mw_972 mw_31 mw_51 hd_X9_fewestToTwo ⟨(Nat.le_of_ble_eq_true rfl), (Nat.le_of_ble_eq_true rfl)⟩,
    mm_r_goto X (show decode cX9_fewest 34 = .ok (.goto 12, 3) by decide +kernel) (by decide),
    mm_r_aload_n X (show decode cX9_fewest 37 = .ok (.aload_n 0, 1) by decide +kernel) rfl,
    mm_r_iconst X (show decode cX9_fewest 38 = .ok (.iconst 2, 1) by decide +kernel) rfl,
    mm_r_iconst X (show decode cX9_fewest 39 = .ok (.iconst 3, 1) by decide +kernel) rfl,
    mm_r_lload_n X (show decode cX9_fewest 40 = .ok (.lload_n 2, 1) by decide +kernel) rfl,
    mm_r_lload X (show decode cX9_fewest 41 = .ok (.lload 4, 2) by decide +kernel),
    mm_r_clV X hth (ci := 9) (na := 4) (sn_X9_fewestToTwo hl) rfl (show decode cX9_fewest 43 = .ok (.invokevirtual 29, 3) by decide +kernel) mw_973 mw_970 mw_972 mw_31 mw_51 hd_X9_fewestToTwo ⟨(Nat.le_of_ble_eq_true rfl), (Nat.le_of_ble_eq_true rfl)⟩,
    mm_r_istore X (show decode cX9_fewest 46 = .ok (.istore 6, 2) by decide +kernel) (Nat.le_of_ble_eq_true rfl),
    mm_r_iload X (show decode cX9_fewest 48 = .ok (.iload 6, 2) by decide +kernel),
    mm_r_sipush X (show decode cX9_fewest 50 = .ok (.sipush 1000, 3) by decide +kernel) rfl,
    mm_r_ge2 X (show decode cX9_fewest 53 = .ok (.if_icmp .ge 8, 3) by decide +kernel) (by decide),
    mm_r_iload X (show decode cX9_fewest 56 = .ok (.iload 6, 2) by decide +kernel),
    mm_r_goto X (show decode cX9_fewest 58 = .ok (.goto 4, 3) by decide +kernel) (by decide),
    mm_r_iconst X (show decode cX9_fewest 61 = .ok (.iconst (-1), 1) by decide +kernel) rfl,
    mm_r_iret X hret (show decode cX9_fewest 62 = .ok (.ireturn, 1) by decide +kernel), trivial⟩
theorem sn_X9_fewest {l : Launch} (hl : l.stackTraces = false) : mm_Snd l yX9_fewest (.code yX9_fewest cX9_fewest 7 (some .int)) 5 135 f_X9_fewest := mm_met hl (plainFor_of_name (by decide +kernel)) (ok_X9_fewest hl)
/-! Linkcourt.far(I)I -/
noncomputable def tb_X10_far : List (Nat × mm_I) := [(0, mm_ldI 1 1), (1, mm_clS 4 1 f_X10_isPlayer), (4, mm_ne1 18 7), (7, mm_thr 1), (18, mm_ldI 19 1), (19, mm_k 20 (.int 1)), (20, mm_ne2 45 23), (23, mm_ldR 24 0), (24, mm_gfR 27 10 0), (27, mm_gfI 30 1 7), (30, mm_k 31 (.int 2)), (31, mm_ne2 45 34), (34, mm_thr 3), (45, mm_ldR 46 0), (46, mm_gfR 49 10 4), (49, mm_ldI 50 1), (50, mm_ldR 51 0), (51, mm_gfR 54 10 1), (54, mm_ldI 55 1), (55, mm_clV 58 6 1 f_X6_stones), (58, mm_ldR 59 0), (59, mm_gfR 62 10 1), (62, mm_clV 65 6 0 f_X6_empty), (65, mm_clV 68 9 3 f_X9_fewest), (68, mm_rtI)]
noncomputable def f_X10_far : mm_F := mm_do (mm_pr tb_X10_far) 2
theorem mn_X10_far : mm_alln tb_X10_far := ⟨mm_n_ldI _ _, mm_n_clS _ _ (mo_X10_isPlayer), mm_n_ne1 _ _, mm_n_thr _, mm_n_ldI _ _, mm_n_k _ _, mm_n_ne2 _ _, mm_n_ldR _ _, mm_n_gfR _ _ _, mm_n_gfI _ _ _, mm_n_k _ _, mm_n_ne2 _ _, mm_n_thr _, mm_n_ldR _ _, mm_n_gfR _ _ _, mm_n_ldI _ _, mm_n_ldR _ _, mm_n_gfR _ _ _, mm_n_ldI _ _, mm_n_clV _ _ _ (mo_X6_stones), mm_n_ldR _ _, mm_n_gfR _ _ _, mm_n_clV _ _ _ (mo_X6_empty), mm_n_clV _ _ _ (mo_X9_fewest), mm_n_rtI, trivial⟩
theorem mo_X10_far : mm_Mo f_X10_far := mm_do_mo (mm_alln_mem mn_X10_far)
set_option maxRecDepth 10000 in
theorem ok_X10_far {l : Launch} (hl : l.stackTraces = false) : mm_Ok l yX10_far cX10_far 2 (some .int) 6 161 tb_X10_far := by
  refine ⟨mm_alln_mem mn_X10_far, fun p e cells slots s m args below meth c D tc A S ad Tg X hret hname htab hth => mm_allr_mem ?_⟩
  exact ⟨mm_r_iload_n X (show decode cX10_far 0 = .ok (.iload_n 1, 1) by decide +kernel) rfl,
    mm_r_clS X hth (na := 1) (sn_X10_isPlayer hl) (show decode cX10_far 1 = .ok (.invokestatic 257, 3) by decide +kernel) mw_621 mw_619 mw_620 mw_44 hd_X10_isPlayer.2 ⟨(Nat.le_of_ble_eq_true rfl), (Nat.le_of_ble_eq_true rfl)⟩,
    mm_r_ne1 X (show decode cX10_far 4 = .ok (.ifCond .ne 14, 3) by decide +kernel) (by decide),
    mm_r_thrW X htab (E := 1) (ik := 110) (is := 260) (ic := 114) (text := "there is no such player") (by decide) rfl mm_aw1 mw_569 mw_60 (by decide +kernel) (show decode cX10_far 7 = .ok (.new 110, 3) by decide +kernel) (show decode cX10_far 10 = .ok (.dup, 1) by decide +kernel) (show decode cX10_far 11 = .ok (.ldc_w 260, 3) by decide +kernel) (show decode cX10_far 14 = .ok (.invokespecial 114, 3) by decide +kernel) (show decode cX10_far 17 = .ok (.athrow, 1) by decide +kernel) (Nat.le_of_ble_eq_true rfl) (Nat.le_of_ble_eq_true rfl),
    mm_r_iload_n X (show decode cX10_far 18 = .ok (.iload_n 1, 1) by decide +kernel) rfl,
    mm_r_iconst X (show decode cX10_far 19 = .ok (.iconst 1, 1) by decide +kernel) rfl,
    mm_r_ne2 X (show decode cX10_far 20 = .ok (.if_icmp .ne 25, 3) by decide +kernel) (by decide),
    mm_r_aload_n X (show decode cX10_far 23 = .ok (.aload_n 0, 1) by decide +kernel) rfl,
    mm_r_gfR X (ci := 10) (p := 0) (show mm_kd 10 0 = 2 by decide +kernel) rfl (Nat.le_of_ble_eq_true rfl) (show decode cX10_far 24 = .ok (.getfield 24, 3) by decide +kernel) mw_428 rfl,
    mm_r_gfI X (ci := 1) (p := 7) (show mm_kd 1 7 = 0 by decide +kernel) rfl (Nat.le_of_ble_eq_true rfl) (show decode cX10_far 27 = .ok (.getfield 262, 3) by decide +kernel) mw_88 rfl,
    mm_r_iconst X (show decode cX10_far 30 = .ok (.iconst 2, 1) by decide +kernel) rfl,
    mm_r_ne2 X (show decode cX10_far 31 = .ok (.if_icmp .ne 14, 3) by decide +kernel) (by decide),
    mm_r_thrW X htab (E := 3) (ik := 129) (is := 265) (ic := 133) (text := "the player 1 closes a ring there") (by decide) rfl mm_aw3 mw_729 mw_62 (by decide +kernel) (show decode cX10_far 34 = .ok (.new 129, 3) by decide +kernel) (show decode cX10_far 37 = .ok (.dup, 1) by decide +kernel) (show decode cX10_far 38 = .ok (.ldc_w 265, 3) by decide +kernel) (show decode cX10_far 41 = .ok (.invokespecial 133, 3) by decide +kernel) (show decode cX10_far 44 = .ok (.athrow, 1) by decide +kernel) (Nat.le_of_ble_eq_true rfl) (Nat.le_of_ble_eq_true rfl),
    mm_r_aload_n X (show decode cX10_far 45 = .ok (.aload_n 0, 1) by decide +kernel) rfl,
    mm_r_gfR X (ci := 10) (p := 4) (show mm_kd 10 4 = 2 by decide +kernel) rfl (Nat.le_of_ble_eq_true rfl) (show decode cX10_far 46 = .ok (.getfield 49, 3) by decide +kernel) mw_432 rfl,
    mm_r_iload_n X (show decode cX10_far 49 = .ok (.iload_n 1, 1) by decide +kernel) rfl,
    mm_r_aload_n X (show decode cX10_far 50 = .ok (.aload_n 0, 1) by decide +kernel) rfl,
    mm_r_gfR X (ci := 10) (p := 1) (show mm_kd 10 1 = 2 by decide +kernel) rfl (Nat.le_of_ble_eq_true rfl) (show decode cX10_far 51 = .ok (.getfield 28, 3) by decide +kernel) mw_429 rfl,
    mm_r_iload_n X (show decode cX10_far 54 = .ok (.iload_n 1, 1) by decide +kernel) rfl,
    mm_r_clV X hth (ci := 6) (na := 1) (sn_X6_stones hl) rfl (show decode cX10_far 55 = .ok (.invokevirtual 194, 3) by decide +kernel) mw_601 mw_598 mw_599 mw_600 mw_46 hd_X6_stones ⟨(Nat.le_of_ble_eq_true rfl), (Nat.le_of_ble_eq_true rfl)⟩,
    mm_r_aload_n X (show decode cX10_far 58 = .ok (.aload_n 0, 1) by decide +kernel) rfl,
    mm_r_gfR X (ci := 10) (p := 1) (show mm_kd 10 1 = 2 by decide +kernel) rfl (Nat.le_of_ble_eq_true rfl) (show decode cX10_far 59 = .ok (.getfield 28, 3) by decide +kernel) mw_429 rfl,
    mm_r_clV X hth (ci := 6) (na := 0) (sn_X6_empty hl) rfl (show decode cX10_far 62 = .ok (.invokevirtual 115, 3) by decide +kernel) mw_483 mw_480 mw_481 mw_482 mw_46 hd_X6_empty ⟨(Nat.le_of_ble_eq_true rfl), (Nat.le_of_ble_eq_true rfl)⟩,
    mm_r_clV X hth (ci := 9) (na := 3) (sn_X9_fewest hl) rfl (show decode cX10_far 65 = .ok (.invokevirtual 267, 3) by decide +kernel) mw_938 mw_935 mw_936 mw_937 mw_51 hd_X9_fewest ⟨(Nat.le_of_ble_eq_true rfl), (Nat.le_of_ble_eq_true rfl)⟩,
    mm_r_iret X hret (show decode cX10_far 68 = .ok (.ireturn, 1) by decide +kernel), trivial⟩
theorem sn_X10_far {l : Launch} (hl : l.stackTraces = false) : mm_Snd l yX10_far (.code yX10_far cX10_far 2 (some .int)) 6 161 f_X10_far := mm_met hl (plainFor_of_name (by decide +kernel)) (ok_X10_far hl)
/-! Linkcourt$PlayingOut.between(IIJ)J -/
noncomputable def tb_X7_between : List (Nat × mm_I) := [(0, mm_ldI 1 1), (1, mm_k 2 (.int (-1))), (2, mm_eq2 41 5), (5, mm_ldI 6 2), (6, mm_k 7 (.int (-1))), (7, mm_eq2 41 10), (10, mm_ldJ 11 3), (11, mm_ldI 12 1), (12, mm_clS 15 2 f_X10_has), (15, mm_eq1 41 18), (18, mm_ldJ 19 3), (19, mm_ldI 20 2), (20, mm_clS 23 2 f_X10_has), (23, mm_eq1 41 26), (26, mm_ldR 27 0), (27, mm_gfR 30 7 0), (30, mm_ldI 31 1), (31, mm_clV 34 1 1 f_X1_around), (34, mm_ldI 35 2), (35, mm_clS 38 2 f_X10_has), (38, mm_eq1 43 41), (41, mm_k 42 (.long 0)), (42, mm_rtJ), (43, mm_ldR 44 0), (44, mm_gfR 47 7 0), (47, mm_ldI 48 1), (48, mm_clV 51 1 1 f_X1_around), (51, mm_ldR 52 0), (52, mm_gfR 55 7 0), (55, mm_ldI 56 2), (56, mm_clV 59 1 1 f_X1_around), (59, mm_l2 60 (fun a b => a &&& b)), (60, mm_stJ 62 5), (62, mm_ldJ 64 5), (64, mm_clS 67 1 f_J13_bitCount_95d88), (67, mm_k 68 (.int 2)), (68, mm_ne2 76 71), (71, mm_ldJ 73 5), (73, mm_go 77), (76, mm_k 77 (.long 0)), (77, mm_rtJ)]
noncomputable def f_X7_between : mm_F := mm_do (mm_pr tb_X7_between) 7
theorem mn_X7_between : mm_alln tb_X7_between := ⟨mm_n_ldI _ _, mm_n_k _ _, mm_n_eq2 _ _, mm_n_ldI _ _, mm_n_k _ _, mm_n_eq2 _ _, mm_n_ldJ _ _, mm_n_ldI _ _, mm_n_clS _ _ (mo_X10_has), mm_n_eq1 _ _, mm_n_ldJ _ _, mm_n_ldI _ _, mm_n_clS _ _ (mo_X10_has), mm_n_eq1 _ _, mm_n_ldR _ _, mm_n_gfR _ _ _, mm_n_ldI _ _, mm_n_clV _ _ _ (mo_X1_around), mm_n_ldI _ _, mm_n_clS _ _ (mo_X10_has), mm_n_eq1 _ _, mm_n_k _ _, mm_n_rtJ, mm_n_ldR _ _, mm_n_gfR _ _ _, mm_n_ldI _ _, mm_n_clV _ _ _ (mo_X1_around), mm_n_ldR _ _, mm_n_gfR _ _ _, mm_n_ldI _ _, mm_n_clV _ _ _ (mo_X1_around), mm_n_l2 _ _, mm_n_stJ _ _, mm_n_ldJ _ _, mm_n_clS _ _ (mo_J13_bitCount_95d88), mm_n_k _ _, mm_n_ne2 _ _, mm_n_ldJ _ _, mm_n_go _, mm_n_k _ _, mm_n_rtJ, trivial⟩
theorem mo_X7_between : mm_Mo f_X7_between := mm_do_mo (mm_alln_mem mn_X7_between)
set_option maxRecDepth 10000 in
theorem ok_X7_between {l : Launch} (hl : l.stackTraces = false) : mm_Ok l yX7_between cX7_between 7 (some .long) 2 42 tb_X7_between := by
  refine ⟨mm_alln_mem mn_X7_between, fun p e cells slots s m args below meth c D tc A S ad Tg X hret hname htab hth => mm_allr_mem ?_⟩
  exact ⟨mm_r_iload_n X (show decode cX7_between 0 = .ok (.iload_n 1, 1) by decide +kernel) rfl,
    mm_r_iconst X (show decode cX7_between 1 = .ok (.iconst (-1), 1) by decide +kernel) rfl,
    mm_r_eq2 X (show decode cX7_between 2 = .ok (.if_icmp .eq 39, 3) by decide +kernel) (by decide),
    mm_r_iload_n X (show decode cX7_between 5 = .ok (.iload_n 2, 1) by decide +kernel) rfl,
    mm_r_iconst X (show decode cX7_between 6 = .ok (.iconst (-1), 1) by decide +kernel) rfl,
    mm_r_eq2 X (show decode cX7_between 7 = .ok (.if_icmp .eq 34, 3) by decide +kernel) (by decide),
    mm_r_lload_n X (show decode cX7_between 10 = .ok (.lload_n 3, 1) by decide +kernel) rfl,
    mm_r_iload_n X (show decode cX7_between 11 = .ok (.iload_n 1, 1) by decide +kernel) rfl,
    mm_r_clSN X hth (na := 2) (sn_X10_has hl) (show decode cX7_between 12 = .ok (.invokestatic 45, 3) by decide +kernel) mw_593 (show ("Linkcourt$PlayingOut", 45, yX10_has) ∈ mm_nest by decide +kernel) mw_592 mw_44 hd_X10_has.2 ⟨(Nat.le_of_ble_eq_true rfl), (Nat.le_of_ble_eq_true rfl)⟩,
    mm_r_eq1 X (show decode cX7_between 15 = .ok (.ifCond .eq 26, 3) by decide +kernel) (by decide),
    mm_r_lload_n X (show decode cX7_between 18 = .ok (.lload_n 3, 1) by decide +kernel) rfl,
    mm_r_iload_n X (show decode cX7_between 19 = .ok (.iload_n 2, 1) by decide +kernel) rfl,
    mm_r_clSN X hth (na := 2) (sn_X10_has hl) (show decode cX7_between 20 = .ok (.invokestatic 45, 3) by decide +kernel) mw_593 (show ("Linkcourt$PlayingOut", 45, yX10_has) ∈ mm_nest by decide +kernel) mw_592 mw_44 hd_X10_has.2 ⟨(Nat.le_of_ble_eq_true rfl), (Nat.le_of_ble_eq_true rfl)⟩,
    mm_r_eq1 X (show decode cX7_between 23 = .ok (.ifCond .eq 18, 3) by decide +kernel) (by decide),
    mm_r_aload_n X (show decode cX7_between 26 = .ok (.aload_n 0, 1) by decide +kernel) rfl,
    mm_r_gfR X (ci := 7) (p := 0) (show mm_kd 7 0 = 2 by decide +kernel) rfl (Nat.le_of_ble_eq_true rfl) (show decode cX7_between 27 = .ok (.getfield 9, 3) by decide +kernel) mw_337 rfl,
    mm_r_iload_n X (show decode cX7_between 30 = .ok (.iload_n 1, 1) by decide +kernel) rfl,
    mm_r_clV X hth (ci := 1) (na := 1) (sn_X1_around hl) rfl (show decode cX7_between 31 = .ok (.invokevirtual 49, 3) by decide +kernel) mw_961 mw_1000 mw_959 mw_960 mw_45 hd_X1_around ⟨(Nat.le_of_ble_eq_true rfl), (Nat.le_of_ble_eq_true rfl)⟩,
    mm_r_iload_n X (show decode cX7_between 34 = .ok (.iload_n 2, 1) by decide +kernel) rfl,
    mm_r_clSN X hth (na := 2) (sn_X10_has hl) (show decode cX7_between 35 = .ok (.invokestatic 45, 3) by decide +kernel) mw_593 (show ("Linkcourt$PlayingOut", 45, yX10_has) ∈ mm_nest by decide +kernel) mw_592 mw_44 hd_X10_has.2 ⟨(Nat.le_of_ble_eq_true rfl), (Nat.le_of_ble_eq_true rfl)⟩,
    mm_r_eq1 X (show decode cX7_between 38 = .ok (.ifCond .eq 5, 3) by decide +kernel) (by decide),
    mm_r_lconst X (show decode cX7_between 41 = .ok (.lconst 0, 1) by decide +kernel) rfl,
    mm_r_lret X hret (show decode cX7_between 42 = .ok (.lreturn, 1) by decide +kernel),
    mm_r_aload_n X (show decode cX7_between 43 = .ok (.aload_n 0, 1) by decide +kernel) rfl,
    mm_r_gfR X (ci := 7) (p := 0) (show mm_kd 7 0 = 2 by decide +kernel) rfl (Nat.le_of_ble_eq_true rfl) (show decode cX7_between 44 = .ok (.getfield 9, 3) by decide +kernel) mw_337 rfl,
    mm_r_iload_n X (show decode cX7_between 47 = .ok (.iload_n 1, 1) by decide +kernel) rfl,
    mm_r_clV X hth (ci := 1) (na := 1) (sn_X1_around hl) rfl (show decode cX7_between 48 = .ok (.invokevirtual 49, 3) by decide +kernel) mw_961 mw_1000 mw_959 mw_960 mw_45 hd_X1_around ⟨(Nat.le_of_ble_eq_true rfl), (Nat.le_of_ble_eq_true rfl)⟩,
    mm_r_aload_n X (show decode cX7_between 51 = .ok (.aload_n 0, 1) by decide +kernel) rfl,
    mm_r_gfR X (ci := 7) (p := 0) (show mm_kd 7 0 = 2 by decide +kernel) rfl (Nat.le_of_ble_eq_true rfl) (show decode cX7_between 52 = .ok (.getfield 9, 3) by decide +kernel) mw_337 rfl,
    mm_r_iload_n X (show decode cX7_between 55 = .ok (.iload_n 2, 1) by decide +kernel) rfl,
    mm_r_clV X hth (ci := 1) (na := 1) (sn_X1_around hl) rfl (show decode cX7_between 56 = .ok (.invokevirtual 49, 3) by decide +kernel) mw_961 mw_1000 mw_959 mw_960 mw_45 hd_X1_around ⟨(Nat.le_of_ble_eq_true rfl), (Nat.le_of_ble_eq_true rfl)⟩,
    mm_r_land X (show decode cX7_between 59 = .ok (.land, 1) by decide +kernel),
    mm_r_lstore X (show decode cX7_between 60 = .ok (.lstore 5, 2) by decide +kernel) (Nat.le_of_ble_eq_true rfl),
    mm_r_lload X (show decode cX7_between 62 = .ok (.lload 5, 2) by decide +kernel),
    mm_r_clS X hth (na := 1) (sn_J13_bitCount_95d88 hl) (show decode cX7_between 64 = .ok (.invokestatic 53, 3) by decide +kernel) mw_229 mw_1001 mw_228 mw_47 hd_J13_bitCount_95d88.2 ⟨(Nat.le_of_ble_eq_true rfl), (Nat.le_of_ble_eq_true rfl)⟩,
    mm_r_iconst X (show decode cX7_between 67 = .ok (.iconst 2, 1) by decide +kernel) rfl,
    mm_r_ne2 X (show decode cX7_between 68 = .ok (.if_icmp .ne 8, 3) by decide +kernel) (by decide),
    mm_r_lload X (show decode cX7_between 71 = .ok (.lload 5, 2) by decide +kernel),
    mm_r_goto X (show decode cX7_between 73 = .ok (.goto 4, 3) by decide +kernel) (by decide),
    mm_r_lconst X (show decode cX7_between 76 = .ok (.lconst 0, 1) by decide +kernel) rfl,
    mm_r_lret X hret (show decode cX7_between 77 = .ok (.lreturn, 1) by decide +kernel), trivial⟩
theorem sn_X7_between {l : Launch} (hl : l.stackTraces = false) : mm_Snd l yX7_between (.code yX7_between cX7_between 7 (some .long)) 2 42 f_X7_between := mm_met hl (plainFor_of_name (by decide +kernel)) (ok_X7_between hl)
/-! Linkcourt$PlayingOut.saving(IJJ)I -/
noncomputable def tb_X7_saving : List (Nat × mm_I) := [(0, mm_k 1 (.long 0)), (1, mm_stJ 3 6), (3, mm_k 4 (.int 0)), (4, mm_stI 6 8), (6, mm_ldI 8 8), (8, mm_k 10 (.int 6)), (10, mm_ge2 68 13), (13, mm_ldI 15 8), (15, mm_k 16 (.int 1)), (16, mm_i2 17 (fun a b => a + b)), (17, mm_stI 19 9), (19, mm_ldI 21 9), (21, mm_k 23 (.int 6)), (23, mm_ge2 62 26), (26, mm_ldJ 28 6), (28, mm_ldR 29 0), (29, mm_ldR 30 0), (30, mm_gfR 33 7 0), (33, mm_ldI 34 1), (34, mm_ldI 36 8), (36, mm_clV 39 1 2 f_X1_next), (39, mm_ldR 40 0), (40, mm_gfR 43 7 0), (43, mm_ldI 44 1), (44, mm_ldI 46 9), (46, mm_clV 49 1 2 f_X1_next), (49, mm_ldJ 50 2), (50, mm_clV 53 7 3 f_X7_between), (53, mm_l2 54 (fun a b => a ||| b)), (54, mm_stJ 56 6), (56, mm_inc 59 9 1), (59, mm_go 19), (62, mm_inc 65 8 1), (65, mm_go 6), (68, mm_ldJ 70 6), (70, mm_ldJ 72 4), (72, mm_l2 73 (fun a b => a &&& b)), (73, mm_stJ 75 6), (75, mm_ldJ 77 6), (77, mm_k 78 (.long 0)), (78, mm_cmp 79), (79, mm_ne1 86 82), (82, mm_k 83 (.int (-1))), (83, mm_go 91), (86, mm_ldJ 88 6), (88, mm_clS 91 1 f_X10_lowest), (91, mm_rtI)]
noncomputable def f_X7_saving : mm_F := mm_do (mm_pr tb_X7_saving) 10
theorem mn_X7_saving : mm_alln tb_X7_saving := ⟨mm_n_k _ _, mm_n_stJ _ _, mm_n_k _ _, mm_n_stI _ _, mm_n_ldI _ _, mm_n_k _ _, mm_n_ge2 _ _, mm_n_ldI _ _, mm_n_k _ _, mm_n_i2 _ _, mm_n_stI _ _, mm_n_ldI _ _, mm_n_k _ _, mm_n_ge2 _ _, mm_n_ldJ _ _, mm_n_ldR _ _, mm_n_ldR _ _, mm_n_gfR _ _ _, mm_n_ldI _ _, mm_n_ldI _ _, mm_n_clV _ _ _ (mo_X1_next), mm_n_ldR _ _, mm_n_gfR _ _ _, mm_n_ldI _ _, mm_n_ldI _ _, mm_n_clV _ _ _ (mo_X1_next), mm_n_ldJ _ _, mm_n_clV _ _ _ (mo_X7_between), mm_n_l2 _ _, mm_n_stJ _ _, mm_n_inc _ _ _, mm_n_go _, mm_n_inc _ _ _, mm_n_go _, mm_n_ldJ _ _, mm_n_ldJ _ _, mm_n_l2 _ _, mm_n_stJ _ _, mm_n_ldJ _ _, mm_n_k _ _, mm_n_cmp _, mm_n_ne1 _ _, mm_n_k _ _, mm_n_go _, mm_n_ldJ _ _, mm_n_clS _ _ (mo_X10_lowest), mm_n_rtI, trivial⟩
theorem mo_X7_saving : mm_Mo f_X7_saving := mm_do_mo (mm_alln_mem mn_X7_saving)
set_option maxRecDepth 10000 in
theorem ok_X7_saving {l : Launch} (hl : l.stackTraces = false) : mm_Ok l yX7_saving cX7_saving 10 (some .int) 3 68 tb_X7_saving := by
  refine ⟨mm_alln_mem mn_X7_saving, fun p e cells slots s m args below meth c D tc A S ad Tg X hret hname htab hth => mm_allr_mem ?_⟩
  exact ⟨mm_r_lconst X (show decode cX7_saving 0 = .ok (.lconst 0, 1) by decide +kernel) rfl,
    mm_r_lstore X (show decode cX7_saving 1 = .ok (.lstore 6, 2) by decide +kernel) (Nat.le_of_ble_eq_true rfl),
    mm_r_iconst X (show decode cX7_saving 3 = .ok (.iconst 0, 1) by decide +kernel) rfl,
    mm_r_istore X (show decode cX7_saving 4 = .ok (.istore 8, 2) by decide +kernel) (Nat.le_of_ble_eq_true rfl),
    mm_r_iload X (show decode cX7_saving 6 = .ok (.iload 8, 2) by decide +kernel),
    mm_r_bipush X (show decode cX7_saving 8 = .ok (.bipush 6, 2) by decide +kernel) rfl,
    mm_r_ge2 X (show decode cX7_saving 10 = .ok (.if_icmp .ge 58, 3) by decide +kernel) (by decide),
    mm_r_iload X (show decode cX7_saving 13 = .ok (.iload 8, 2) by decide +kernel),
    mm_r_iconst X (show decode cX7_saving 15 = .ok (.iconst 1, 1) by decide +kernel) rfl,
    mm_r_iadd X (show decode cX7_saving 16 = .ok (.iadd, 1) by decide +kernel),
    mm_r_istore X (show decode cX7_saving 17 = .ok (.istore 9, 2) by decide +kernel) (Nat.le_of_ble_eq_true rfl),
    mm_r_iload X (show decode cX7_saving 19 = .ok (.iload 9, 2) by decide +kernel),
    mm_r_bipush X (show decode cX7_saving 21 = .ok (.bipush 6, 2) by decide +kernel) rfl,
    mm_r_ge2 X (show decode cX7_saving 23 = .ok (.if_icmp .ge 39, 3) by decide +kernel) (by decide),
    mm_r_lload X (show decode cX7_saving 26 = .ok (.lload 6, 2) by decide +kernel),
    mm_r_aload_n X (show decode cX7_saving 28 = .ok (.aload_n 0, 1) by decide +kernel) rfl,
    mm_r_aload_n X (show decode cX7_saving 29 = .ok (.aload_n 0, 1) by decide +kernel) rfl,
    mm_r_gfR X (ci := 7) (p := 0) (show mm_kd 7 0 = 2 by decide +kernel) rfl (Nat.le_of_ble_eq_true rfl) (show decode cX7_saving 30 = .ok (.getfield 9, 3) by decide +kernel) mw_337 rfl,
    mm_r_iload_n X (show decode cX7_saving 33 = .ok (.iload_n 1, 1) by decide +kernel) rfl,
    mm_r_iload X (show decode cX7_saving 34 = .ok (.iload 8, 2) by decide +kernel),
    mm_r_clV X hth (ci := 1) (na := 2) (sn_X1_next hl) rfl (show decode cX7_saving 36 = .ok (.invokevirtual 34, 3) by decide +kernel) mw_635 mw_994 mw_633 mw_634 mw_45 hd_X1_next ⟨(Nat.le_of_ble_eq_true rfl), (Nat.le_of_ble_eq_true rfl)⟩,
    mm_r_aload_n X (show decode cX7_saving 39 = .ok (.aload_n 0, 1) by decide +kernel) rfl,
    mm_r_gfR X (ci := 7) (p := 0) (show mm_kd 7 0 = 2 by decide +kernel) rfl (Nat.le_of_ble_eq_true rfl) (show decode cX7_saving 40 = .ok (.getfield 9, 3) by decide +kernel) mw_337 rfl,
    mm_r_iload_n X (show decode cX7_saving 43 = .ok (.iload_n 1, 1) by decide +kernel) rfl,
    mm_r_iload X (show decode cX7_saving 44 = .ok (.iload 9, 2) by decide +kernel),
    mm_r_clV X hth (ci := 1) (na := 2) (sn_X1_next hl) rfl (show decode cX7_saving 46 = .ok (.invokevirtual 34, 3) by decide +kernel) mw_635 mw_994 mw_633 mw_634 mw_45 hd_X1_next ⟨(Nat.le_of_ble_eq_true rfl), (Nat.le_of_ble_eq_true rfl)⟩,
    mm_r_lload_n X (show decode cX7_saving 49 = .ok (.lload_n 2, 1) by decide +kernel) rfl,
    mm_r_clV X hth (ci := 7) (na := 3) (sn_X7_between hl) rfl (show decode cX7_saving 50 = .ok (.invokevirtual 38, 3) by decide +kernel) mw_998 mw_995 mw_997 mw_34 mw_52 hd_X7_between ⟨(Nat.le_of_ble_eq_true rfl), (Nat.le_of_ble_eq_true rfl)⟩,
    mm_r_lor X (show decode cX7_saving 53 = .ok (.lor, 1) by decide +kernel),
    mm_r_lstore X (show decode cX7_saving 54 = .ok (.lstore 6, 2) by decide +kernel) (Nat.le_of_ble_eq_true rfl),
    mm_r_iinc X (show decode cX7_saving 56 = .ok (.iinc 9 1, 3) by decide +kernel) rfl (Nat.le_of_ble_eq_true rfl),
    mm_r_goto X (show decode cX7_saving 59 = .ok (.goto (-40), 3) by decide +kernel) (by decide),
    mm_r_iinc X (show decode cX7_saving 62 = .ok (.iinc 8 1, 3) by decide +kernel) rfl (Nat.le_of_ble_eq_true rfl),
    mm_r_goto X (show decode cX7_saving 65 = .ok (.goto (-59), 3) by decide +kernel) (by decide),
    mm_r_lload X (show decode cX7_saving 68 = .ok (.lload 6, 2) by decide +kernel),
    mm_r_lload X (show decode cX7_saving 70 = .ok (.lload 4, 2) by decide +kernel),
    mm_r_land X (show decode cX7_saving 72 = .ok (.land, 1) by decide +kernel),
    mm_r_lstore X (show decode cX7_saving 73 = .ok (.lstore 6, 2) by decide +kernel) (Nat.le_of_ble_eq_true rfl),
    mm_r_lload X (show decode cX7_saving 75 = .ok (.lload 6, 2) by decide +kernel),
    mm_r_lconst X (show decode cX7_saving 77 = .ok (.lconst 0, 1) by decide +kernel) rfl,
    mm_r_lcmp X (show decode cX7_saving 78 = .ok (.lcmp, 1) by decide +kernel),
    mm_r_ne1 X (show decode cX7_saving 79 = .ok (.ifCond .ne 7, 3) by decide +kernel) (by decide),
    mm_r_iconst X (show decode cX7_saving 82 = .ok (.iconst (-1), 1) by decide +kernel) rfl,
    mm_r_goto X (show decode cX7_saving 83 = .ok (.goto 8, 3) by decide +kernel) (by decide),
    mm_r_lload X (show decode cX7_saving 86 = .ok (.lload 6, 2) by decide +kernel),
    mm_r_clSN X hth (na := 1) (sn_X10_lowest hl) (show decode cX7_saving 88 = .ok (.invokestatic 42, 3) by decide +kernel) mw_609 (show ("Linkcourt$PlayingOut", 42, yX10_lowest) ∈ mm_nest by decide +kernel) mw_608 mw_44 hd_X10_lowest.2 ⟨(Nat.le_of_ble_eq_true rfl), (Nat.le_of_ble_eq_true rfl)⟩,
    mm_r_iret X hret (show decode cX7_saving 91 = .ok (.ireturn, 1) by decide +kernel), trivial⟩
theorem sn_X7_saving {l : Launch} (hl : l.stackTraces = false) : mm_Snd l yX7_saving (.code yX7_saving cX7_saving 10 (some .int)) 3 68 f_X7_saving := mm_met hl (plainFor_of_name (by decide +kernel)) (ok_X7_saving hl)
/-! Linkcourt$PlayingOut.draw(I)I -/
noncomputable def tb_X7_draw : List (Nat × mm_I) := [(0, mm_ldR 1 0), (1, mm_k 4 (.long 1103515245)), (4, mm_ldR 5 0), (5, mm_gfJ 8 7 1), (8, mm_l2 9 (fun a b => a * b)), (9, mm_k 12 (.long 12345)), (12, mm_l2 13 (fun a b => a + b)), (13, mm_k 16 (.long 2147483648)), (16, mm_l3 17 (fun a b => a - a / b * b)), (17, mm_pfJ 20 7 1), (20, mm_ldI 21 1), (21, mm_k 22 (.int 1)), (22, mm_ge2 29 25), (25, mm_k 26 (.int 0)), (26, mm_go 41), (29, mm_ldR 30 0), (30, mm_gfJ 33 7 1), (33, mm_k 36 (.long 65536)), (36, mm_l3 37 (fun a b => a / b)), (37, mm_ldI 38 1), (38, mm_il 39 (fun a => a.toInt64)), (39, mm_l3 40 (fun a b => a - a / b * b)), (40, mm_li 41 (fun a => a.toInt32)), (41, mm_rtI)]
noncomputable def f_X7_draw : mm_F := mm_do (mm_pr tb_X7_draw) 2
theorem mn_X7_draw : mm_alln tb_X7_draw := ⟨mm_n_ldR _ _, mm_n_k _ _, mm_n_ldR _ _, mm_n_gfJ _ _ _, mm_n_l2 _ _, mm_n_k _ _, mm_n_l2 _ _, mm_n_k _ _, mm_n_l3 _ _, mm_n_pfJ _ _ _, mm_n_ldI _ _, mm_n_k _ _, mm_n_ge2 _ _, mm_n_k _ _, mm_n_go _, mm_n_ldR _ _, mm_n_gfJ _ _ _, mm_n_k _ _, mm_n_l3 _ _, mm_n_ldI _ _, mm_n_il _ _, mm_n_l3 _ _, mm_n_li _ _, mm_n_rtI, trivial⟩
theorem mo_X7_draw : mm_Mo f_X7_draw := mm_do_mo (mm_alln_mem mn_X7_draw)
set_option maxRecDepth 10000 in
theorem ok_X7_draw {l : Launch} (hl : l.stackTraces = false) : mm_Ok l yX7_draw cX7_draw 2 (some .int) 1 20 tb_X7_draw := by
  refine ⟨mm_alln_mem mn_X7_draw, fun p e cells slots s m args below meth c D tc A S ad Tg X hret hname htab hth => mm_allr_mem ?_⟩
  exact ⟨mm_r_aload_n X (show decode cX7_draw 0 = .ok (.aload_n 0, 1) by decide +kernel) rfl,
    mm_r_ldc2 X (show decode cX7_draw 1 = .ok (.ldc2_w 62, 3) by decide +kernel) mw_1011,
    mm_r_aload_n X (show decode cX7_draw 4 = .ok (.aload_n 0, 1) by decide +kernel) rfl,
    mm_r_gfJ X (ci := 7) (p := 1) (show mm_kd 7 1 = 1 by decide +kernel) rfl (Nat.le_of_ble_eq_true rfl) (show decode cX7_draw 5 = .ok (.getfield 15, 3) by decide +kernel) mw_338 rfl,
    mm_r_lmul X (show decode cX7_draw 8 = .ok (.lmul, 1) by decide +kernel),
    mm_r_ldc2 X (show decode cX7_draw 9 = .ok (.ldc2_w 64, 3) by decide +kernel) mw_1012,
    mm_r_ladd X (show decode cX7_draw 12 = .ok (.ladd, 1) by decide +kernel),
    mm_r_ldc2 X (show decode cX7_draw 13 = .ok (.ldc2_w 66, 3) by decide +kernel) mw_1013,
    mm_r_lrem X (show decode cX7_draw 16 = .ok (.lrem, 1) by decide +kernel),
    mm_r_pfJ X (ci := 7) (p := 1) (show mm_kd 7 1 = 1 by decide +kernel) rfl rfl (Nat.le_of_ble_eq_true rfl) (show decode cX7_draw 17 = .ok (.putfield 15, 3) by decide +kernel) mw_338 rfl rfl,
    mm_r_iload_n X (show decode cX7_draw 20 = .ok (.iload_n 1, 1) by decide +kernel) rfl,
    mm_r_iconst X (show decode cX7_draw 21 = .ok (.iconst 1, 1) by decide +kernel) rfl,
    mm_r_ge2 X (show decode cX7_draw 22 = .ok (.if_icmp .ge 7, 3) by decide +kernel) (by decide),
    mm_r_iconst X (show decode cX7_draw 25 = .ok (.iconst 0, 1) by decide +kernel) rfl,
    mm_r_goto X (show decode cX7_draw 26 = .ok (.goto 15, 3) by decide +kernel) (by decide),
    mm_r_aload_n X (show decode cX7_draw 29 = .ok (.aload_n 0, 1) by decide +kernel) rfl,
    mm_r_gfJ X (ci := 7) (p := 1) (show mm_kd 7 1 = 1 by decide +kernel) rfl (Nat.le_of_ble_eq_true rfl) (show decode cX7_draw 30 = .ok (.getfield 15, 3) by decide +kernel) mw_338 rfl,
    mm_r_ldc2 X (show decode cX7_draw 33 = .ok (.ldc2_w 68, 3) by decide +kernel) mw_1014,
    mm_r_ldiv X (show decode cX7_draw 36 = .ok (.ldiv, 1) by decide +kernel),
    mm_r_iload_n X (show decode cX7_draw 37 = .ok (.iload_n 1, 1) by decide +kernel) rfl,
    mm_r_i2l X (show decode cX7_draw 38 = .ok (.i2l, 1) by decide +kernel),
    mm_r_lrem X (show decode cX7_draw 39 = .ok (.lrem, 1) by decide +kernel),
    mm_r_l2i X (show decode cX7_draw 40 = .ok (.l2i, 1) by decide +kernel),
    mm_r_iret X hret (show decode cX7_draw 41 = .ok (.ireturn, 1) by decide +kernel), trivial⟩
theorem sn_X7_draw {l : Launch} (hl : l.stackTraces = false) : mm_Snd l yX7_draw (.code yX7_draw cX7_draw 2 (some .int)) 1 20 f_X7_draw := mm_met hl (plainFor_of_name (by decide +kernel)) (ok_X7_draw hl)
/-! Linkcourt$PlayingOut.drawnOf(J)I -/
noncomputable def tb_X7_drawnOf : List (Nat × mm_I) := [(0, mm_ldJ 1 1), (1, mm_stJ 2 3), (2, mm_ldR 3 0), (3, mm_ldJ 4 1), (4, mm_clS 7 1 f_J13_bitCount_95d88), (7, mm_clV 10 7 1 f_X7_draw), (10, mm_stI 12 5), (12, mm_k 13 (.int 0)), (13, mm_stI 15 6), (15, mm_ldI 17 6), (17, mm_ldI 19 5), (19, mm_ge2 41 22), (22, mm_ldI 24 6), (24, mm_k 26 (.int 36)), (26, mm_ge2 41 29), (29, mm_ldJ 30 3), (30, mm_ldJ 31 3), (31, mm_k 32 (.long 1)), (32, mm_l2 33 (fun a b => a - b)), (33, mm_l2 34 (fun a b => a &&& b)), (34, mm_stJ 35 3), (35, mm_inc 38 6 1), (38, mm_go 15), (41, mm_ldJ 42 3), (42, mm_clS 45 1 f_X10_lowest), (45, mm_rtI)]
noncomputable def f_X7_drawnOf : mm_F := mm_do (mm_pr tb_X7_drawnOf) 7
theorem mn_X7_drawnOf : mm_alln tb_X7_drawnOf := ⟨mm_n_ldJ _ _, mm_n_stJ _ _, mm_n_ldR _ _, mm_n_ldJ _ _, mm_n_clS _ _ (mo_J13_bitCount_95d88), mm_n_clV _ _ _ (mo_X7_draw), mm_n_stI _ _, mm_n_k _ _, mm_n_stI _ _, mm_n_ldI _ _, mm_n_ldI _ _, mm_n_ge2 _ _, mm_n_ldI _ _, mm_n_k _ _, mm_n_ge2 _ _, mm_n_ldJ _ _, mm_n_ldJ _ _, mm_n_k _ _, mm_n_l2 _ _, mm_n_l2 _ _, mm_n_stJ _ _, mm_n_inc _ _ _, mm_n_go _, mm_n_ldJ _ _, mm_n_clS _ _ (mo_X10_lowest), mm_n_rtI, trivial⟩
theorem mo_X7_drawnOf : mm_Mo f_X7_drawnOf := mm_do_mo (mm_alln_mem mn_X7_drawnOf)
set_option maxRecDepth 10000 in
theorem ok_X7_drawnOf {l : Launch} (hl : l.stackTraces = false) : mm_Ok l yX7_drawnOf cX7_drawnOf 7 (some .int) 3 62 tb_X7_drawnOf := by
  refine ⟨mm_alln_mem mn_X7_drawnOf, fun p e cells slots s m args below meth c D tc A S ad Tg X hret hname htab hth => mm_allr_mem ?_⟩
  exact ⟨mm_r_lload_n X (show decode cX7_drawnOf 0 = .ok (.lload_n 1, 1) by decide +kernel) rfl,
    mm_r_lstore_n X (show decode cX7_drawnOf 1 = .ok (.lstore_n 3, 1) by decide +kernel) rfl (Nat.le_of_ble_eq_true rfl),
    mm_r_aload_n X (show decode cX7_drawnOf 2 = .ok (.aload_n 0, 1) by decide +kernel) rfl,
    mm_r_lload_n X (show decode cX7_drawnOf 3 = .ok (.lload_n 1, 1) by decide +kernel) rfl,
    mm_r_clS X hth (na := 1) (sn_J13_bitCount_95d88 hl) (show decode cX7_drawnOf 4 = .ok (.invokestatic 53, 3) by decide +kernel) mw_229 mw_1001 mw_228 mw_47 hd_J13_bitCount_95d88.2 ⟨(Nat.le_of_ble_eq_true rfl), (Nat.le_of_ble_eq_true rfl)⟩,
    mm_r_clV X hth (ci := 7) (na := 1) (sn_X7_draw hl) rfl (show decode cX7_drawnOf 7 = .ok (.invokevirtual 58, 3) by decide +kernel) mw_1010 mw_1007 mw_1009 mw_36 mw_52 hd_X7_draw ⟨(Nat.le_of_ble_eq_true rfl), (Nat.le_of_ble_eq_true rfl)⟩,
    mm_r_istore X (show decode cX7_drawnOf 10 = .ok (.istore 5, 2) by decide +kernel) (Nat.le_of_ble_eq_true rfl),
    mm_r_iconst X (show decode cX7_drawnOf 12 = .ok (.iconst 0, 1) by decide +kernel) rfl,
    mm_r_istore X (show decode cX7_drawnOf 13 = .ok (.istore 6, 2) by decide +kernel) (Nat.le_of_ble_eq_true rfl),
    mm_r_iload X (show decode cX7_drawnOf 15 = .ok (.iload 6, 2) by decide +kernel),
    mm_r_iload X (show decode cX7_drawnOf 17 = .ok (.iload 5, 2) by decide +kernel),
    mm_r_ge2 X (show decode cX7_drawnOf 19 = .ok (.if_icmp .ge 22, 3) by decide +kernel) (by decide),
    mm_r_iload X (show decode cX7_drawnOf 22 = .ok (.iload 6, 2) by decide +kernel),
    mm_r_bipush X (show decode cX7_drawnOf 24 = .ok (.bipush 36, 2) by decide +kernel) rfl,
    mm_r_ge2 X (show decode cX7_drawnOf 26 = .ok (.if_icmp .ge 15, 3) by decide +kernel) (by decide),
    mm_r_lload_n X (show decode cX7_drawnOf 29 = .ok (.lload_n 3, 1) by decide +kernel) rfl,
    mm_r_lload_n X (show decode cX7_drawnOf 30 = .ok (.lload_n 3, 1) by decide +kernel) rfl,
    mm_r_lconst X (show decode cX7_drawnOf 31 = .ok (.lconst 1, 1) by decide +kernel) rfl,
    mm_r_lsub X (show decode cX7_drawnOf 32 = .ok (.lsub, 1) by decide +kernel),
    mm_r_land X (show decode cX7_drawnOf 33 = .ok (.land, 1) by decide +kernel),
    mm_r_lstore_n X (show decode cX7_drawnOf 34 = .ok (.lstore_n 3, 1) by decide +kernel) rfl (Nat.le_of_ble_eq_true rfl),
    mm_r_iinc X (show decode cX7_drawnOf 35 = .ok (.iinc 6 1, 3) by decide +kernel) rfl (Nat.le_of_ble_eq_true rfl),
    mm_r_goto X (show decode cX7_drawnOf 38 = .ok (.goto (-23), 3) by decide +kernel) (by decide),
    mm_r_lload_n X (show decode cX7_drawnOf 41 = .ok (.lload_n 3, 1) by decide +kernel) rfl,
    mm_r_clSN X hth (na := 1) (sn_X10_lowest hl) (show decode cX7_drawnOf 42 = .ok (.invokestatic 42, 3) by decide +kernel) mw_609 (show ("Linkcourt$PlayingOut", 42, yX10_lowest) ∈ mm_nest by decide +kernel) mw_608 mw_44 hd_X10_lowest.2 ⟨(Nat.le_of_ble_eq_true rfl), (Nat.le_of_ble_eq_true rfl)⟩,
    mm_r_iret X hret (show decode cX7_drawnOf 45 = .ok (.ireturn, 1) by decide +kernel), trivial⟩
theorem sn_X7_drawnOf {l : Launch} (hl : l.stackTraces = false) : mm_Snd l yX7_drawnOf (.code yX7_drawnOf cX7_drawnOf 7 (some .int)) 3 62 f_X7_drawnOf := mm_met hl (plainFor_of_name (by decide +kernel)) (ok_X7_drawnOf hl)
/-! Linkcourt$PlayingOut.stonesOf0(JJII)J -/
noncomputable def tb_X7_stonesOf0 : List (Nat × mm_I) := [(0, mm_ldR 1 0), (1, mm_ldI 3 6), (3, mm_il 4 (fun a => a.toInt64)), (4, mm_pfJ 7 7 1), (7, mm_ldJ 8 1), (8, mm_stJ 10 7), (10, mm_ldJ 11 3), (11, mm_stJ 13 9), (13, mm_ldI 15 5), (15, mm_stI 17 11), (17, mm_k 18 (.int (-1))), (18, mm_stI 20 12), (20, mm_k 21 (.int 0)), (21, mm_stI 23 13), (23, mm_ldI 25 13), (25, mm_k 27 (.int 36)), (27, mm_ge2 158 30), (30, mm_ldR 31 0), (31, mm_gfR 34 7 0), (34, mm_gfJ 37 1 10), (37, mm_ldJ 39 7), (39, mm_ldJ 41 9), (41, mm_l2 42 (fun a b => a ||| b)), (42, mm_k 45 (.long (-1))), (45, mm_l2 46 (fun a b => a ^^^ b)), (46, mm_l2 47 (fun a b => a &&& b)), (47, mm_stJ 49 14), (49, mm_ldJ 51 14), (51, mm_k 52 (.long 0)), (52, mm_cmp 53), (53, mm_ne1 59 56), (56, mm_go 158), (59, mm_ldI 61 12), (61, mm_k 62 (.int (-1))), (62, mm_ne2 69 65), (65, mm_k 66 (.int (-1))), (66, mm_go 89), (69, mm_ldR 70 0), (70, mm_ldI 72 12), (72, mm_ldI 74 11), (74, mm_ne1 82 77), (77, mm_ldJ 79 7), (79, mm_go 84), (82, mm_ldJ 84 9), (84, mm_ldJ 86 14), (86, mm_clV 89 7 3 f_X7_saving), (89, mm_stI 91 16), (91, mm_ldI 93 16), (93, mm_k 94 (.int (-1))), (94, mm_ne2 106 97), (97, mm_ldR 98 0), (98, mm_ldJ 100 14), (100, mm_clV 103 7 1 f_X7_drawnOf), (103, mm_go 108), (106, mm_ldI 108 16), (108, mm_stI 110 12), (110, mm_ldJ 112 7), (112, mm_ldI 114 11), (114, mm_ne1 124 117), (117, mm_k 118 (.long 1)), (118, mm_ldI 120 12), (120, mm_ls 121 (fun a b => a <<< (b.toInt64 &&& 63))), (121, mm_go 125), (124, mm_k 125 (.long 0)), (125, mm_l2 126 (fun a b => a ||| b)), (126, mm_stJ 128 7), (128, mm_ldJ 130 9), (130, mm_ldI 132 11), (132, mm_ne1 139 135), (135, mm_k 136 (.long 0)), (136, mm_go 143), (139, mm_k 140 (.long 1)), (140, mm_ldI 142 12), (142, mm_ls 143 (fun a b => a <<< (b.toInt64 &&& 63))), (143, mm_l2 144 (fun a b => a ||| b)), (144, mm_stJ 146 9), (146, mm_k 147 (.int 1)), (147, mm_ldI 149 11), (149, mm_i2 150 (fun a b => a - b)), (150, mm_stI 152 11), (152, mm_inc 155 13 1), (155, mm_go 23), (158, mm_ldJ 160 7), (160, mm_rtJ)]
noncomputable def f_X7_stonesOf0 : mm_F := mm_do (mm_pr tb_X7_stonesOf0) 17
theorem mn_X7_stonesOf0 : mm_alln tb_X7_stonesOf0 := ⟨mm_n_ldR _ _, mm_n_ldI _ _, mm_n_il _ _, mm_n_pfJ _ _ _, mm_n_ldJ _ _, mm_n_stJ _ _, mm_n_ldJ _ _, mm_n_stJ _ _, mm_n_ldI _ _, mm_n_stI _ _, mm_n_k _ _, mm_n_stI _ _, mm_n_k _ _, mm_n_stI _ _, mm_n_ldI _ _, mm_n_k _ _, mm_n_ge2 _ _, mm_n_ldR _ _, mm_n_gfR _ _ _, mm_n_gfJ _ _ _, mm_n_ldJ _ _, mm_n_ldJ _ _, mm_n_l2 _ _, mm_n_k _ _, mm_n_l2 _ _, mm_n_l2 _ _, mm_n_stJ _ _, mm_n_ldJ _ _, mm_n_k _ _, mm_n_cmp _, mm_n_ne1 _ _, mm_n_go _, mm_n_ldI _ _, mm_n_k _ _, mm_n_ne2 _ _, mm_n_k _ _, mm_n_go _, mm_n_ldR _ _, mm_n_ldI _ _, mm_n_ldI _ _, mm_n_ne1 _ _, mm_n_ldJ _ _, mm_n_go _, mm_n_ldJ _ _, mm_n_ldJ _ _, mm_n_clV _ _ _ (mo_X7_saving), mm_n_stI _ _, mm_n_ldI _ _, mm_n_k _ _, mm_n_ne2 _ _, mm_n_ldR _ _, mm_n_ldJ _ _, mm_n_clV _ _ _ (mo_X7_drawnOf), mm_n_go _, mm_n_ldI _ _, mm_n_stI _ _, mm_n_ldJ _ _, mm_n_ldI _ _, mm_n_ne1 _ _, mm_n_k _ _, mm_n_ldI _ _, mm_n_ls _ _, mm_n_go _, mm_n_k _ _, mm_n_l2 _ _, mm_n_stJ _ _, mm_n_ldJ _ _, mm_n_ldI _ _, mm_n_ne1 _ _, mm_n_k _ _, mm_n_go _, mm_n_k _ _, mm_n_ldI _ _, mm_n_ls _ _, mm_n_l2 _ _, mm_n_stJ _ _, mm_n_k _ _, mm_n_ldI _ _, mm_n_i2 _ _, mm_n_stI _ _, mm_n_inc _ _ _, mm_n_go _, mm_n_ldJ _ _, mm_n_rtJ, trivial⟩
theorem mo_X7_stonesOf0 : mm_Mo f_X7_stonesOf0 := mm_do_mo (mm_alln_mem mn_X7_stonesOf0)
set_option maxRecDepth 10000 in
theorem ok_X7_stonesOf0 {l : Launch} (hl : l.stackTraces = false) : mm_Ok l yX7_stonesOf0 cX7_stonesOf0 17 (some .long) 4 97 tb_X7_stonesOf0 := by
  refine ⟨mm_alln_mem mn_X7_stonesOf0, fun p e cells slots s m args below meth c D tc A S ad Tg X hret hname htab hth => mm_allr_mem ?_⟩
  exact ⟨mm_r_aload_n X (show decode cX7_stonesOf0 0 = .ok (.aload_n 0, 1) by decide +kernel) rfl,
    mm_r_iload X (show decode cX7_stonesOf0 1 = .ok (.iload 6, 2) by decide +kernel),
    mm_r_i2l X (show decode cX7_stonesOf0 3 = .ok (.i2l, 1) by decide +kernel),
    mm_r_pfJ X (ci := 7) (p := 1) (show mm_kd 7 1 = 1 by decide +kernel) rfl rfl (Nat.le_of_ble_eq_true rfl) (show decode cX7_stonesOf0 4 = .ok (.putfield 15, 3) by decide +kernel) mw_338 rfl rfl,
    mm_r_lload_n X (show decode cX7_stonesOf0 7 = .ok (.lload_n 1, 1) by decide +kernel) rfl,
    mm_r_lstore X (show decode cX7_stonesOf0 8 = .ok (.lstore 7, 2) by decide +kernel) (Nat.le_of_ble_eq_true rfl),
    mm_r_lload_n X (show decode cX7_stonesOf0 10 = .ok (.lload_n 3, 1) by decide +kernel) rfl,
    mm_r_lstore X (show decode cX7_stonesOf0 11 = .ok (.lstore 9, 2) by decide +kernel) (Nat.le_of_ble_eq_true rfl),
    mm_r_iload X (show decode cX7_stonesOf0 13 = .ok (.iload 5, 2) by decide +kernel),
    mm_r_istore X (show decode cX7_stonesOf0 15 = .ok (.istore 11, 2) by decide +kernel) (Nat.le_of_ble_eq_true rfl),
    mm_r_iconst X (show decode cX7_stonesOf0 17 = .ok (.iconst (-1), 1) by decide +kernel) rfl,
    mm_r_istore X (show decode cX7_stonesOf0 18 = .ok (.istore 12, 2) by decide +kernel) (Nat.le_of_ble_eq_true rfl),
    mm_r_iconst X (show decode cX7_stonesOf0 20 = .ok (.iconst 0, 1) by decide +kernel) rfl,
    mm_r_istore X (show decode cX7_stonesOf0 21 = .ok (.istore 13, 2) by decide +kernel) (Nat.le_of_ble_eq_true rfl),
    mm_r_iload X (show decode cX7_stonesOf0 23 = .ok (.iload 13, 2) by decide +kernel),
    mm_r_bipush X (show decode cX7_stonesOf0 25 = .ok (.bipush 36, 2) by decide +kernel) rfl,
    mm_r_ge2 X (show decode cX7_stonesOf0 27 = .ok (.if_icmp .ge 131, 3) by decide +kernel) (by decide),
    mm_r_aload_n X (show decode cX7_stonesOf0 30 = .ok (.aload_n 0, 1) by decide +kernel) rfl,
    mm_r_gfR X (ci := 7) (p := 0) (show mm_kd 7 0 = 2 by decide +kernel) rfl (Nat.le_of_ble_eq_true rfl) (show decode cX7_stonesOf0 31 = .ok (.getfield 9, 3) by decide +kernel) mw_337 rfl,
    mm_r_gfJ X (ci := 1) (p := 10) (show mm_kd 1 10 = 1 by decide +kernel) rfl (Nat.le_of_ble_eq_true rfl) (show decode cX7_stonesOf0 34 = .ok (.getfield 19, 3) by decide +kernel) mw_94 rfl,
    mm_r_lload X (show decode cX7_stonesOf0 37 = .ok (.lload 7, 2) by decide +kernel),
    mm_r_lload X (show decode cX7_stonesOf0 39 = .ok (.lload 9, 2) by decide +kernel),
    mm_r_lor X (show decode cX7_stonesOf0 41 = .ok (.lor, 1) by decide +kernel),
    mm_r_ldc2 X (show decode cX7_stonesOf0 42 = .ok (.ldc2_w 24, 3) by decide +kernel) mw_989,
    mm_r_lxor X (show decode cX7_stonesOf0 45 = .ok (.lxor, 1) by decide +kernel),
    mm_r_land X (show decode cX7_stonesOf0 46 = .ok (.land, 1) by decide +kernel),
    mm_r_lstore X (show decode cX7_stonesOf0 47 = .ok (.lstore 14, 2) by decide +kernel) (Nat.le_of_ble_eq_true rfl),
    mm_r_lload X (show decode cX7_stonesOf0 49 = .ok (.lload 14, 2) by decide +kernel),
    mm_r_lconst X (show decode cX7_stonesOf0 51 = .ok (.lconst 0, 1) by decide +kernel) rfl,
    mm_r_lcmp X (show decode cX7_stonesOf0 52 = .ok (.lcmp, 1) by decide +kernel),
    mm_r_ne1 X (show decode cX7_stonesOf0 53 = .ok (.ifCond .ne 6, 3) by decide +kernel) (by decide),
    mm_r_goto X (show decode cX7_stonesOf0 56 = .ok (.goto 102, 3) by decide +kernel) (by decide),
    mm_r_iload X (show decode cX7_stonesOf0 59 = .ok (.iload 12, 2) by decide +kernel),
    mm_r_iconst X (show decode cX7_stonesOf0 61 = .ok (.iconst (-1), 1) by decide +kernel) rfl,
    mm_r_ne2 X (show decode cX7_stonesOf0 62 = .ok (.if_icmp .ne 7, 3) by decide +kernel) (by decide),
    mm_r_iconst X (show decode cX7_stonesOf0 65 = .ok (.iconst (-1), 1) by decide +kernel) rfl,
    mm_r_goto X (show decode cX7_stonesOf0 66 = .ok (.goto 23, 3) by decide +kernel) (by decide),
    mm_r_aload_n X (show decode cX7_stonesOf0 69 = .ok (.aload_n 0, 1) by decide +kernel) rfl,
    mm_r_iload X (show decode cX7_stonesOf0 70 = .ok (.iload 12, 2) by decide +kernel),
    mm_r_iload X (show decode cX7_stonesOf0 72 = .ok (.iload 11, 2) by decide +kernel),
    mm_r_ne1 X (show decode cX7_stonesOf0 74 = .ok (.ifCond .ne 8, 3) by decide +kernel) (by decide),
    mm_r_lload X (show decode cX7_stonesOf0 77 = .ok (.lload 7, 2) by decide +kernel),
    mm_r_goto X (show decode cX7_stonesOf0 79 = .ok (.goto 5, 3) by decide +kernel) (by decide),
    mm_r_lload X (show decode cX7_stonesOf0 82 = .ok (.lload 9, 2) by decide +kernel),
    mm_r_lload X (show decode cX7_stonesOf0 84 = .ok (.lload 14, 2) by decide +kernel),
    mm_r_clV X hth (ci := 7) (na := 3) (sn_X7_saving hl) rfl (show decode cX7_stonesOf0 86 = .ok (.invokevirtual 26, 3) by decide +kernel) mw_993 mw_990 mw_992 mw_33 mw_52 hd_X7_saving ⟨(Nat.le_of_ble_eq_true rfl), (Nat.le_of_ble_eq_true rfl)⟩,
    mm_r_istore X (show decode cX7_stonesOf0 89 = .ok (.istore 16, 2) by decide +kernel) (Nat.le_of_ble_eq_true rfl),
    mm_r_iload X (show decode cX7_stonesOf0 91 = .ok (.iload 16, 2) by decide +kernel),
    mm_r_iconst X (show decode cX7_stonesOf0 93 = .ok (.iconst (-1), 1) by decide +kernel) rfl,
    mm_r_ne2 X (show decode cX7_stonesOf0 94 = .ok (.if_icmp .ne 12, 3) by decide +kernel) (by decide),
    mm_r_aload_n X (show decode cX7_stonesOf0 97 = .ok (.aload_n 0, 1) by decide +kernel) rfl,
    mm_r_lload X (show decode cX7_stonesOf0 98 = .ok (.lload 14, 2) by decide +kernel),
    mm_r_clV X hth (ci := 7) (na := 1) (sn_X7_drawnOf hl) rfl (show decode cX7_stonesOf0 100 = .ok (.invokevirtual 30, 3) by decide +kernel) mw_1006 mw_1003 mw_1005 mw_35 mw_52 hd_X7_drawnOf ⟨(Nat.le_of_ble_eq_true rfl), (Nat.le_of_ble_eq_true rfl)⟩,
    mm_r_goto X (show decode cX7_stonesOf0 103 = .ok (.goto 5, 3) by decide +kernel) (by decide),
    mm_r_iload X (show decode cX7_stonesOf0 106 = .ok (.iload 16, 2) by decide +kernel),
    mm_r_istore X (show decode cX7_stonesOf0 108 = .ok (.istore 12, 2) by decide +kernel) (Nat.le_of_ble_eq_true rfl),
    mm_r_lload X (show decode cX7_stonesOf0 110 = .ok (.lload 7, 2) by decide +kernel),
    mm_r_iload X (show decode cX7_stonesOf0 112 = .ok (.iload 11, 2) by decide +kernel),
    mm_r_ne1 X (show decode cX7_stonesOf0 114 = .ok (.ifCond .ne 10, 3) by decide +kernel) (by decide),
    mm_r_lconst X (show decode cX7_stonesOf0 117 = .ok (.lconst 1, 1) by decide +kernel) rfl,
    mm_r_iload X (show decode cX7_stonesOf0 118 = .ok (.iload 12, 2) by decide +kernel),
    mm_r_lshl X (show decode cX7_stonesOf0 120 = .ok (.lshl, 1) by decide +kernel),
    mm_r_goto X (show decode cX7_stonesOf0 121 = .ok (.goto 4, 3) by decide +kernel) (by decide),
    mm_r_lconst X (show decode cX7_stonesOf0 124 = .ok (.lconst 0, 1) by decide +kernel) rfl,
    mm_r_lor X (show decode cX7_stonesOf0 125 = .ok (.lor, 1) by decide +kernel),
    mm_r_lstore X (show decode cX7_stonesOf0 126 = .ok (.lstore 7, 2) by decide +kernel) (Nat.le_of_ble_eq_true rfl),
    mm_r_lload X (show decode cX7_stonesOf0 128 = .ok (.lload 9, 2) by decide +kernel),
    mm_r_iload X (show decode cX7_stonesOf0 130 = .ok (.iload 11, 2) by decide +kernel),
    mm_r_ne1 X (show decode cX7_stonesOf0 132 = .ok (.ifCond .ne 7, 3) by decide +kernel) (by decide),
    mm_r_lconst X (show decode cX7_stonesOf0 135 = .ok (.lconst 0, 1) by decide +kernel) rfl,
    mm_r_goto X (show decode cX7_stonesOf0 136 = .ok (.goto 7, 3) by decide +kernel) (by decide),
    mm_r_lconst X (show decode cX7_stonesOf0 139 = .ok (.lconst 1, 1) by decide +kernel) rfl,
    mm_r_iload X (show decode cX7_stonesOf0 140 = .ok (.iload 12, 2) by decide +kernel),
    mm_r_lshl X (show decode cX7_stonesOf0 142 = .ok (.lshl, 1) by decide +kernel),
    mm_r_lor X (show decode cX7_stonesOf0 143 = .ok (.lor, 1) by decide +kernel),
    mm_r_lstore X (show decode cX7_stonesOf0 144 = .ok (.lstore 9, 2) by decide +kernel) (Nat.le_of_ble_eq_true rfl),
    mm_r_iconst X (show decode cX7_stonesOf0 146 = .ok (.iconst 1, 1) by decide +kernel) rfl,
    mm_r_iload X (show decode cX7_stonesOf0 147 = .ok (.iload 11, 2) by decide +kernel),
    mm_r_isub X (show decode cX7_stonesOf0 149 = .ok (.isub, 1) by decide +kernel),
    mm_r_istore X (show decode cX7_stonesOf0 150 = .ok (.istore 11, 2) by decide +kernel) (Nat.le_of_ble_eq_true rfl),
    mm_r_iinc X (show decode cX7_stonesOf0 152 = .ok (.iinc 13 1, 3) by decide +kernel) rfl (Nat.le_of_ble_eq_true rfl),
    mm_r_goto X (show decode cX7_stonesOf0 155 = .ok (.goto (-132), 3) by decide +kernel) (by decide),
    mm_r_lload X (show decode cX7_stonesOf0 158 = .ok (.lload 7, 2) by decide +kernel),
    mm_r_lret X hret (show decode cX7_stonesOf0 160 = .ok (.lreturn, 1) by decide +kernel), trivial⟩
theorem sn_X7_stonesOf0 {l : Launch} (hl : l.stackTraces = false) : mm_Snd l yX7_stonesOf0 (.code yX7_stonesOf0 cX7_stonesOf0 17 (some .long)) 4 97 f_X7_stonesOf0 := mm_met hl (plainFor_of_name (by decide +kernel)) (ok_X7_stonesOf0 hl)
/-! Linkcourt.playedOutFrom(I)J -/
noncomputable def tb_X10_playedOutFrom : List (Nat × mm_I) := [(0, mm_ldR 1 0), (1, mm_gfR 4 10 5), (4, mm_ldR 5 0), (5, mm_gfR 8 10 1), (8, mm_gfJ 11 6 4), (11, mm_ldR 12 0), (12, mm_gfR 15 10 1), (15, mm_gfJ 18 6 5), (18, mm_ldR 19 0), (19, mm_gfR 22 10 1), (22, mm_clV 25 6 0 f_X6_mover), (25, mm_ldI 26 1), (26, mm_clV 29 7 4 f_X7_stonesOf0), (29, mm_rtJ)]
noncomputable def f_X10_playedOutFrom : mm_F := mm_do (mm_pr tb_X10_playedOutFrom) 2
theorem mn_X10_playedOutFrom : mm_alln tb_X10_playedOutFrom := ⟨mm_n_ldR _ _, mm_n_gfR _ _ _, mm_n_ldR _ _, mm_n_gfR _ _ _, mm_n_gfJ _ _ _, mm_n_ldR _ _, mm_n_gfR _ _ _, mm_n_gfJ _ _ _, mm_n_ldR _ _, mm_n_gfR _ _ _, mm_n_clV _ _ _ (mo_X6_mover), mm_n_ldI _ _, mm_n_clV _ _ _ (mo_X7_stonesOf0), mm_n_rtJ, trivial⟩
theorem mo_X10_playedOutFrom : mm_Mo f_X10_playedOutFrom := mm_do_mo (mm_alln_mem mn_X10_playedOutFrom)
set_option maxRecDepth 10000 in
theorem ok_X10_playedOutFrom {l : Launch} (hl : l.stackTraces = false) : mm_Ok l yX10_playedOutFrom cX10_playedOutFrom 2 (some .long) 5 133 tb_X10_playedOutFrom := by
  refine ⟨mm_alln_mem mn_X10_playedOutFrom, fun p e cells slots s m args below meth c D tc A S ad Tg X hret hname htab hth => mm_allr_mem ?_⟩
  exact ⟨mm_r_aload_n X (show decode cX10_playedOutFrom 0 = .ok (.aload_n 0, 1) by decide +kernel) rfl,
    mm_r_gfR X (ci := 10) (p := 5) (show mm_kd 10 5 = 2 by decide +kernel) rfl (Nat.le_of_ble_eq_true rfl) (show decode cX10_playedOutFrom 1 = .ok (.getfield 56, 3) by decide +kernel) mw_433 rfl,
    mm_r_aload_n X (show decode cX10_playedOutFrom 4 = .ok (.aload_n 0, 1) by decide +kernel) rfl,
    mm_r_gfR X (ci := 10) (p := 1) (show mm_kd 10 1 = 2 by decide +kernel) rfl (Nat.le_of_ble_eq_true rfl) (show decode cX10_playedOutFrom 5 = .ok (.getfield 28, 3) by decide +kernel) mw_429 rfl,
    mm_r_gfJ X (ci := 6) (p := 4) (show mm_kd 6 4 = 1 by decide +kernel) rfl (Nat.le_of_ble_eq_true rfl) (show decode cX10_playedOutFrom 8 = .ok (.getfield 169, 3) by decide +kernel) mw_175 rfl,
    mm_r_aload_n X (show decode cX10_playedOutFrom 11 = .ok (.aload_n 0, 1) by decide +kernel) rfl,
    mm_r_gfR X (ci := 10) (p := 1) (show mm_kd 10 1 = 2 by decide +kernel) rfl (Nat.le_of_ble_eq_true rfl) (show decode cX10_playedOutFrom 12 = .ok (.getfield 28, 3) by decide +kernel) mw_429 rfl,
    mm_r_gfJ X (ci := 6) (p := 5) (show mm_kd 6 5 = 1 by decide +kernel) rfl (Nat.le_of_ble_eq_true rfl) (show decode cX10_playedOutFrom 15 = .ok (.getfield 176, 3) by decide +kernel) mw_177 rfl,
    mm_r_aload_n X (show decode cX10_playedOutFrom 18 = .ok (.aload_n 0, 1) by decide +kernel) rfl,
    mm_r_gfR X (ci := 10) (p := 1) (show mm_kd 10 1 = 2 by decide +kernel) rfl (Nat.le_of_ble_eq_true rfl) (show decode cX10_playedOutFrom 19 = .ok (.getfield 28, 3) by decide +kernel) mw_429 rfl,
    mm_r_clV X hth (ci := 6) (na := 0) (sn_X6_mover hl) rfl (show decode cX10_playedOutFrom 22 = .ok (.invokevirtual 134, 3) by decide +kernel) mw_479 mw_476 mw_477 mw_478 mw_46 hd_X6_mover ⟨(Nat.le_of_ble_eq_true rfl), (Nat.le_of_ble_eq_true rfl)⟩,
    mm_r_iload_n X (show decode cX10_playedOutFrom 25 = .ok (.iload_n 1, 1) by decide +kernel) rfl,
    mm_r_clV X hth (ci := 7) (na := 4) (sn_X7_stonesOf0 hl) rfl (show decode cX10_playedOutFrom 26 = .ok (.invokevirtual 377, 3) by decide +kernel) mw_988 mw_985 mw_986 mw_987 mw_52 hd_X7_stonesOf0 ⟨(Nat.le_of_ble_eq_true rfl), (Nat.le_of_ble_eq_true rfl)⟩,
    mm_r_lret X hret (show decode cX10_playedOutFrom 29 = .ok (.lreturn, 1) by decide +kernel), trivial⟩
theorem sn_X10_playedOutFrom {l : Launch} (hl : l.stackTraces = false) : mm_Snd l yX10_playedOutFrom (.code yX10_playedOutFrom cX10_playedOutFrom 2 (some .long)) 5 133 f_X10_playedOutFrom := mm_met hl (plainFor_of_name (by decide +kernel)) (ok_X10_playedOutFrom hl)
/-! Linkcourt.plays(II)I -/
noncomputable def tb_X10_plays : List (Nat × mm_I) := [(0, mm_ldI 1 1), (1, mm_lt1 22 4), (4, mm_ldI 5 1), (5, mm_k 8 (.int 1000000)), (8, mm_gt2 22 11), (11, mm_ldI 12 2), (12, mm_k 13 (.int 1)), (13, mm_lt2 22 16), (16, mm_ldI 17 2), (17, mm_k 19 (.int 50)), (19, mm_le2 33 22), (22, mm_thr 2), (33, mm_ldR 34 0), (34, mm_gfR 37 10 1), (37, mm_gfI 40 6 6), (40, mm_k 41 (.int (-1))), (41, mm_eq2 55 44), (44, mm_thr 3), (55, mm_k 56 (.int 0)), (56, mm_stI 57 3), (57, mm_k 58 (.int 0)), (58, mm_stI 60 4), (60, mm_ldI 62 4), (62, mm_ldI 63 2), (63, mm_ge2 94 66), (66, mm_ldR 67 0), (67, mm_gfR 70 10 0), (70, mm_k 71 (.int 0)), (71, mm_ldR 72 0), (72, mm_ldI 73 1), (73, mm_ldI 75 4), (75, mm_i2 76 (fun a b => a + b)), (76, mm_clV 79 10 1 f_X10_playedOutFrom), (79, mm_clV 82 1 2 f_X1_hasJoined), (82, mm_eq1 88 85), (85, mm_inc 88 3 1), (88, mm_inc 91 4 1), (91, mm_go 60), (94, mm_ldI 95 3), (95, mm_rtI)]
noncomputable def f_X10_plays : mm_F := mm_do (mm_pr tb_X10_plays) 5
theorem mn_X10_plays : mm_alln tb_X10_plays := ⟨mm_n_ldI _ _, mm_n_lt1 _ _, mm_n_ldI _ _, mm_n_k _ _, mm_n_gt2 _ _, mm_n_ldI _ _, mm_n_k _ _, mm_n_lt2 _ _, mm_n_ldI _ _, mm_n_k _ _, mm_n_le2 _ _, mm_n_thr _, mm_n_ldR _ _, mm_n_gfR _ _ _, mm_n_gfI _ _ _, mm_n_k _ _, mm_n_eq2 _ _, mm_n_thr _, mm_n_k _ _, mm_n_stI _ _, mm_n_k _ _, mm_n_stI _ _, mm_n_ldI _ _, mm_n_ldI _ _, mm_n_ge2 _ _, mm_n_ldR _ _, mm_n_gfR _ _ _, mm_n_k _ _, mm_n_ldR _ _, mm_n_ldI _ _, mm_n_ldI _ _, mm_n_i2 _ _, mm_n_clV _ _ _ (mo_X10_playedOutFrom), mm_n_clV _ _ _ (mo_X1_hasJoined), mm_n_eq1 _ _, mm_n_inc _ _ _, mm_n_inc _ _ _, mm_n_go _, mm_n_ldI _ _, mm_n_rtI, trivial⟩
theorem mo_X10_plays : mm_Mo f_X10_plays := mm_do_mo (mm_alln_mem mn_X10_plays)
set_option maxRecDepth 10000 in
theorem ok_X10_plays {l : Launch} (hl : l.stackTraces = false) : mm_Ok l yX10_plays cX10_plays 5 (some .int) 6 154 tb_X10_plays := by
  refine ⟨mm_alln_mem mn_X10_plays, fun p e cells slots s m args below meth c D tc A S ad Tg X hret hname htab hth => mm_allr_mem ?_⟩
  exact ⟨mm_r_iload_n X (show decode cX10_plays 0 = .ok (.iload_n 1, 1) by decide +kernel) rfl,
    mm_r_lt1 X (show decode cX10_plays 1 = .ok (.ifCond .lt 21, 3) by decide +kernel) (by decide),
    mm_r_iload_n X (show decode cX10_plays 4 = .ok (.iload_n 1, 1) by decide +kernel) rfl,
    mm_r_ldcw X (show decode cX10_plays 5 = .ok (.ldc_w 271, 3) by decide +kernel) mw_978,
    mm_r_gt2 X (show decode cX10_plays 8 = .ok (.if_icmp .gt 14, 3) by decide +kernel) (by decide),
    mm_r_iload_n X (show decode cX10_plays 11 = .ok (.iload_n 2, 1) by decide +kernel) rfl,
    mm_r_iconst X (show decode cX10_plays 12 = .ok (.iconst 1, 1) by decide +kernel) rfl,
    mm_r_lt2 X (show decode cX10_plays 13 = .ok (.if_icmp .lt 9, 3) by decide +kernel) (by decide),
    mm_r_iload_n X (show decode cX10_plays 16 = .ok (.iload_n 2, 1) by decide +kernel) rfl,
    mm_r_bipush X (show decode cX10_plays 17 = .ok (.bipush 50, 2) by decide +kernel) rfl,
    mm_r_le2 X (show decode cX10_plays 19 = .ok (.if_icmp .le 14, 3) by decide +kernel) (by decide),
    mm_r_thrW X htab (E := 2) (ik := 85) (is := 272) (ic := 89) (text := "seed or times is out of range") (by decide) rfl mm_aw2 mw_494 mw_59 (by decide +kernel) (show decode cX10_plays 22 = .ok (.new 85, 3) by decide +kernel) (show decode cX10_plays 25 = .ok (.dup, 1) by decide +kernel) (show decode cX10_plays 26 = .ok (.ldc_w 272, 3) by decide +kernel) (show decode cX10_plays 29 = .ok (.invokespecial 89, 3) by decide +kernel) (show decode cX10_plays 32 = .ok (.athrow, 1) by decide +kernel) (Nat.le_of_ble_eq_true rfl) (Nat.le_of_ble_eq_true rfl),
    mm_r_aload_n X (show decode cX10_plays 33 = .ok (.aload_n 0, 1) by decide +kernel) rfl,
    mm_r_gfR X (ci := 10) (p := 1) (show mm_kd 10 1 = 2 by decide +kernel) rfl (Nat.le_of_ble_eq_true rfl) (show decode cX10_plays 34 = .ok (.getfield 28, 3) by decide +kernel) mw_429 rfl,
    mm_r_gfI X (ci := 6) (p := 6) (show mm_kd 6 6 = 0 by decide +kernel) rfl (Nat.le_of_ble_eq_true rfl) (show decode cX10_plays 37 = .ok (.getfield 166, 3) by decide +kernel) mw_179 rfl,
    mm_r_iconst X (show decode cX10_plays 40 = .ok (.iconst (-1), 1) by decide +kernel) rfl,
    mm_r_eq2 X (show decode cX10_plays 41 = .ok (.if_icmp .eq 14, 3) by decide +kernel) (by decide),
    mm_r_thrW X htab (E := 3) (ik := 129) (is := 274) (ic := 133) (text := "somebody has joined") (by decide) rfl mm_aw3 mw_729 mw_62 (by decide +kernel) (show decode cX10_plays 44 = .ok (.new 129, 3) by decide +kernel) (show decode cX10_plays 47 = .ok (.dup, 1) by decide +kernel) (show decode cX10_plays 48 = .ok (.ldc_w 274, 3) by decide +kernel) (show decode cX10_plays 51 = .ok (.invokespecial 133, 3) by decide +kernel) (show decode cX10_plays 54 = .ok (.athrow, 1) by decide +kernel) (Nat.le_of_ble_eq_true rfl) (Nat.le_of_ble_eq_true rfl),
    mm_r_iconst X (show decode cX10_plays 55 = .ok (.iconst 0, 1) by decide +kernel) rfl,
    mm_r_istore_n X (show decode cX10_plays 56 = .ok (.istore_n 3, 1) by decide +kernel) rfl (Nat.le_of_ble_eq_true rfl),
    mm_r_iconst X (show decode cX10_plays 57 = .ok (.iconst 0, 1) by decide +kernel) rfl,
    mm_r_istore X (show decode cX10_plays 58 = .ok (.istore 4, 2) by decide +kernel) (Nat.le_of_ble_eq_true rfl),
    mm_r_iload X (show decode cX10_plays 60 = .ok (.iload 4, 2) by decide +kernel),
    mm_r_iload_n X (show decode cX10_plays 62 = .ok (.iload_n 2, 1) by decide +kernel) rfl,
    mm_r_ge2 X (show decode cX10_plays 63 = .ok (.if_icmp .ge 31, 3) by decide +kernel) (by decide),
    mm_r_aload_n X (show decode cX10_plays 66 = .ok (.aload_n 0, 1) by decide +kernel) rfl,
    mm_r_gfR X (ci := 10) (p := 0) (show mm_kd 10 0 = 2 by decide +kernel) rfl (Nat.le_of_ble_eq_true rfl) (show decode cX10_plays 67 = .ok (.getfield 24, 3) by decide +kernel) mw_428 rfl,
    mm_r_iconst X (show decode cX10_plays 70 = .ok (.iconst 0, 1) by decide +kernel) rfl,
    mm_r_aload_n X (show decode cX10_plays 71 = .ok (.aload_n 0, 1) by decide +kernel) rfl,
    mm_r_iload_n X (show decode cX10_plays 72 = .ok (.iload_n 1, 1) by decide +kernel) rfl,
    mm_r_iload X (show decode cX10_plays 73 = .ok (.iload 4, 2) by decide +kernel),
    mm_r_iadd X (show decode cX10_plays 75 = .ok (.iadd, 1) by decide +kernel),
    mm_r_clV X hth (ci := 10) (na := 1) (sn_X10_playedOutFrom hl) rfl (show decode cX10_plays 76 = .ok (.invokevirtual 276, 3) by decide +kernel) mw_984 mw_981 mw_983 mw_32 mw_44 hd_X10_playedOutFrom ⟨(Nat.le_of_ble_eq_true rfl), (Nat.le_of_ble_eq_true rfl)⟩,
    mm_r_clV X hth (ci := 1) (na := 2) (sn_X1_hasJoined hl) rfl (show decode cX10_plays 79 = .ok (.invokevirtual 279, 3) by decide +kernel) mw_214 mw_1015 mw_212 mw_213 mw_45 hd_X1_hasJoined ⟨(Nat.le_of_ble_eq_true rfl), (Nat.le_of_ble_eq_true rfl)⟩,
    mm_r_eq1 X (show decode cX10_plays 82 = .ok (.ifCond .eq 6, 3) by decide +kernel) (by decide),
    mm_r_iinc X (show decode cX10_plays 85 = .ok (.iinc 3 1, 3) by decide +kernel) rfl (Nat.le_of_ble_eq_true rfl),
    mm_r_iinc X (show decode cX10_plays 88 = .ok (.iinc 4 1, 3) by decide +kernel) rfl (Nat.le_of_ble_eq_true rfl),
    mm_r_goto X (show decode cX10_plays 91 = .ok (.goto (-31), 3) by decide +kernel) (by decide),
    mm_r_iload_n X (show decode cX10_plays 94 = .ok (.iload_n 3, 1) by decide +kernel) rfl,
    mm_r_iret X hret (show decode cX10_plays 95 = .ok (.ireturn, 1) by decide +kernel), trivial⟩
theorem sn_X10_plays {l : Launch} (hl : l.stackTraces = false) : mm_Snd l yX10_plays (.code yX10_plays cX10_plays 5 (some .int)) 6 154 f_X10_plays := mm_met hl (plainFor_of_name (by decide +kernel)) (ok_X10_plays hl)
/-! Linkcourt.playedOut(I)J -/
noncomputable def tb_X10_playedOut : List (Nat × mm_I) := [(0, mm_ldI 1 1), (1, mm_lt1 11 4), (4, mm_ldI 5 1), (5, mm_k 8 (.int 1000000)), (8, mm_le2 22 11), (11, mm_thr 2), (22, mm_ldR 23 0), (23, mm_gfR 26 10 1), (26, mm_gfI 29 6 6), (29, mm_k 30 (.int (-1))), (30, mm_eq2 44 33), (33, mm_thr 3), (44, mm_ldR 45 0), (45, mm_ldI 46 1), (46, mm_clV 49 10 1 f_X10_playedOutFrom), (49, mm_rtJ)]
noncomputable def f_X10_playedOut : mm_F := mm_do (mm_pr tb_X10_playedOut) 2
theorem mn_X10_playedOut : mm_alln tb_X10_playedOut := ⟨mm_n_ldI _ _, mm_n_lt1 _ _, mm_n_ldI _ _, mm_n_k _ _, mm_n_le2 _ _, mm_n_thr _, mm_n_ldR _ _, mm_n_gfR _ _ _, mm_n_gfI _ _ _, mm_n_k _ _, mm_n_eq2 _ _, mm_n_thr _, mm_n_ldR _ _, mm_n_ldI _ _, mm_n_clV _ _ _ (mo_X10_playedOutFrom), mm_n_rtJ, trivial⟩
theorem mo_X10_playedOut : mm_Mo f_X10_playedOut := mm_do_mo (mm_alln_mem mn_X10_playedOut)
set_option maxRecDepth 10000 in
theorem ok_X10_playedOut {l : Launch} (hl : l.stackTraces = false) : mm_Ok l yX10_playedOut cX10_playedOut 2 (some .long) 6 154 tb_X10_playedOut := by
  refine ⟨mm_alln_mem mn_X10_playedOut, fun p e cells slots s m args below meth c D tc A S ad Tg X hret hname htab hth => mm_allr_mem ?_⟩
  exact ⟨mm_r_iload_n X (show decode cX10_playedOut 0 = .ok (.iload_n 1, 1) by decide +kernel) rfl,
    mm_r_lt1 X (show decode cX10_playedOut 1 = .ok (.ifCond .lt 10, 3) by decide +kernel) (by decide),
    mm_r_iload_n X (show decode cX10_playedOut 4 = .ok (.iload_n 1, 1) by decide +kernel) rfl,
    mm_r_ldcw X (show decode cX10_playedOut 5 = .ok (.ldc_w 271, 3) by decide +kernel) mw_978,
    mm_r_le2 X (show decode cX10_playedOut 8 = .ok (.if_icmp .le 14, 3) by decide +kernel) (by decide),
    mm_r_thrW X htab (E := 2) (ik := 85) (is := 283) (ic := 89) (text := "seed is out of range") (by decide) rfl mm_aw2 mw_494 mw_59 (by decide +kernel) (show decode cX10_playedOut 11 = .ok (.new 85, 3) by decide +kernel) (show decode cX10_playedOut 14 = .ok (.dup, 1) by decide +kernel) (show decode cX10_playedOut 15 = .ok (.ldc_w 283, 3) by decide +kernel) (show decode cX10_playedOut 18 = .ok (.invokespecial 89, 3) by decide +kernel) (show decode cX10_playedOut 21 = .ok (.athrow, 1) by decide +kernel) (Nat.le_of_ble_eq_true rfl) (Nat.le_of_ble_eq_true rfl),
    mm_r_aload_n X (show decode cX10_playedOut 22 = .ok (.aload_n 0, 1) by decide +kernel) rfl,
    mm_r_gfR X (ci := 10) (p := 1) (show mm_kd 10 1 = 2 by decide +kernel) rfl (Nat.le_of_ble_eq_true rfl) (show decode cX10_playedOut 23 = .ok (.getfield 28, 3) by decide +kernel) mw_429 rfl,
    mm_r_gfI X (ci := 6) (p := 6) (show mm_kd 6 6 = 0 by decide +kernel) rfl (Nat.le_of_ble_eq_true rfl) (show decode cX10_playedOut 26 = .ok (.getfield 166, 3) by decide +kernel) mw_179 rfl,
    mm_r_iconst X (show decode cX10_playedOut 29 = .ok (.iconst (-1), 1) by decide +kernel) rfl,
    mm_r_eq2 X (show decode cX10_playedOut 30 = .ok (.if_icmp .eq 14, 3) by decide +kernel) (by decide),
    mm_r_thrW X htab (E := 3) (ik := 129) (is := 274) (ic := 133) (text := "somebody has joined") (by decide) rfl mm_aw3 mw_729 mw_62 (by decide +kernel) (show decode cX10_playedOut 33 = .ok (.new 129, 3) by decide +kernel) (show decode cX10_playedOut 36 = .ok (.dup, 1) by decide +kernel) (show decode cX10_playedOut 37 = .ok (.ldc_w 274, 3) by decide +kernel) (show decode cX10_playedOut 40 = .ok (.invokespecial 133, 3) by decide +kernel) (show decode cX10_playedOut 43 = .ok (.athrow, 1) by decide +kernel) (Nat.le_of_ble_eq_true rfl) (Nat.le_of_ble_eq_true rfl),
    mm_r_aload_n X (show decode cX10_playedOut 44 = .ok (.aload_n 0, 1) by decide +kernel) rfl,
    mm_r_iload_n X (show decode cX10_playedOut 45 = .ok (.iload_n 1, 1) by decide +kernel) rfl,
    mm_r_clV X hth (ci := 10) (na := 1) (sn_X10_playedOutFrom hl) rfl (show decode cX10_playedOut 46 = .ok (.invokevirtual 276, 3) by decide +kernel) mw_984 mw_981 mw_983 mw_32 mw_44 hd_X10_playedOutFrom ⟨(Nat.le_of_ble_eq_true rfl), (Nat.le_of_ble_eq_true rfl)⟩,
    mm_r_lret X hret (show decode cX10_playedOut 49 = .ok (.lreturn, 1) by decide +kernel), trivial⟩
theorem sn_X10_playedOut {l : Launch} (hl : l.stackTraces = false) : mm_Snd l yX10_playedOut (.code yX10_playedOut cX10_playedOut 2 (some .long)) 6 154 f_X10_playedOut := mm_met hl (plainFor_of_name (by decide +kernel)) (ok_X10_playedOut hl)
/-! Linkcourt$Patterns.signOf(JI)C -/
noncomputable def tb_X5_signOf : List (Nat × mm_I) := [(0, mm_ldJ 1 1), (1, mm_k 3 (.int 8)), (3, mm_ldI 4 3), (4, mm_i2 5 (fun a b => a * b)), (5, mm_ls 6 (fun a b => a >>> (b.toInt64 &&& 63))), (6, mm_k 9 (.long 255)), (9, mm_l2 10 (fun a b => a &&& b)), (10, mm_li 11 (fun a => a.toInt32)), (11, mm_i1 12 (fun a => (a.toUInt32 % 65536).toInt32)), (12, mm_rtC)]
noncomputable def f_X5_signOf : mm_F := mm_do (mm_pr tb_X5_signOf) 4
theorem mn_X5_signOf : mm_alln tb_X5_signOf := ⟨mm_n_ldJ _ _, mm_n_k _ _, mm_n_ldI _ _, mm_n_i2 _ _, mm_n_ls _ _, mm_n_k _ _, mm_n_l2 _ _, mm_n_li _ _, mm_n_i1 _ _, mm_n_rtC, trivial⟩
theorem mo_X5_signOf : mm_Mo f_X5_signOf := mm_do_mo (mm_alln_mem mn_X5_signOf)
set_option maxRecDepth 10000 in
theorem ok_X5_signOf {l : Launch} (hl : l.stackTraces = false) : mm_Ok l yX5_signOf cX5_signOf 4 (some .char) 1 20 tb_X5_signOf := by
  refine ⟨mm_alln_mem mn_X5_signOf, fun p e cells slots s m args below meth c D tc A S ad Tg X hret hname htab hth => mm_allr_mem ?_⟩
  exact ⟨mm_r_lload_n X (show decode cX5_signOf 0 = .ok (.lload_n 1, 1) by decide +kernel) rfl,
    mm_r_bipush X (show decode cX5_signOf 1 = .ok (.bipush 8, 2) by decide +kernel) rfl,
    mm_r_iload_n X (show decode cX5_signOf 3 = .ok (.iload_n 3, 1) by decide +kernel) rfl,
    mm_r_imul X (show decode cX5_signOf 4 = .ok (.imul, 1) by decide +kernel),
    mm_r_lshr X (show decode cX5_signOf 5 = .ok (.lshr, 1) by decide +kernel),
    mm_r_ldc2 X (show decode cX5_signOf 6 = .ok (.ldc2_w 44, 3) by decide +kernel) mw_1173,
    mm_r_land X (show decode cX5_signOf 9 = .ok (.land, 1) by decide +kernel),
    mm_r_l2i X (show decode cX5_signOf 10 = .ok (.l2i, 1) by decide +kernel),
    mm_r_i2c X (show decode cX5_signOf 11 = .ok (.i2c, 1) by decide +kernel),
    mm_r_cret X hret (show decode cX5_signOf 12 = .ok (.ireturn, 1) by decide +kernel), trivial⟩
theorem sn_X5_signOf {l : Launch} (hl : l.stackTraces = false) : mm_Snd l yX5_signOf (.code yX5_signOf cX5_signOf 4 (some .char)) 1 20 f_X5_signOf := mm_met hl (plainFor_of_name (by decide +kernel)) (ok_X5_signOf hl)
/-! Linkcourt$Patterns.meaning(C)I -/
noncomputable def tb_X5_meaning : List (Nat × mm_I) := [(0, mm_ldI 1 0), (1, mm_k 3 (.int 46)), (3, mm_ne2 10 6), (6, mm_k 7 (.int 1)), (7, mm_go 53), (10, mm_ldI 11 0), (11, mm_k 13 (.int 111)), (13, mm_ne2 20 16), (16, mm_k 17 (.int 2)), (17, mm_go 53), (20, mm_ldI 21 0), (21, mm_k 23 (.int 120)), (23, mm_ne2 30 26), (26, mm_k 27 (.int 4)), (27, mm_go 53), (30, mm_ldI 31 0), (31, mm_k 33 (.int 35)), (33, mm_ne2 41 36), (36, mm_k 38 (.int 8)), (38, mm_go 53), (41, mm_ldI 42 0), (42, mm_k 44 (.int 42)), (44, mm_ne2 52 47), (47, mm_k 49 (.int 15)), (49, mm_go 53), (52, mm_k 53 (.int 0)), (53, mm_rtI)]
noncomputable def f_X5_meaning : mm_F := mm_do (mm_pr tb_X5_meaning) 1
theorem mn_X5_meaning : mm_alln tb_X5_meaning := ⟨mm_n_ldI _ _, mm_n_k _ _, mm_n_ne2 _ _, mm_n_k _ _, mm_n_go _, mm_n_ldI _ _, mm_n_k _ _, mm_n_ne2 _ _, mm_n_k _ _, mm_n_go _, mm_n_ldI _ _, mm_n_k _ _, mm_n_ne2 _ _, mm_n_k _ _, mm_n_go _, mm_n_ldI _ _, mm_n_k _ _, mm_n_ne2 _ _, mm_n_k _ _, mm_n_go _, mm_n_ldI _ _, mm_n_k _ _, mm_n_ne2 _ _, mm_n_k _ _, mm_n_go _, mm_n_k _ _, mm_n_rtI, trivial⟩
theorem mo_X5_meaning : mm_Mo f_X5_meaning := mm_do_mo (mm_alln_mem mn_X5_meaning)
set_option maxRecDepth 10000 in
theorem ok_X5_meaning {l : Launch} (hl : l.stackTraces = false) : mm_Ok l yX5_meaning cX5_meaning 1 (some .int) 1 20 tb_X5_meaning := by
  refine ⟨mm_alln_mem mn_X5_meaning, fun p e cells slots s m args below meth c D tc A S ad Tg X hret hname htab hth => mm_allr_mem ?_⟩
  exact ⟨mm_r_iload_n X (show decode cX5_meaning 0 = .ok (.iload_n 0, 1) by decide +kernel) rfl,
    mm_r_bipush X (show decode cX5_meaning 1 = .ok (.bipush 46, 2) by decide +kernel) rfl,
    mm_r_ne2 X (show decode cX5_meaning 3 = .ok (.if_icmp .ne 7, 3) by decide +kernel) (by decide),
    mm_r_iconst X (show decode cX5_meaning 6 = .ok (.iconst 1, 1) by decide +kernel) rfl,
    mm_r_goto X (show decode cX5_meaning 7 = .ok (.goto 46, 3) by decide +kernel) (by decide),
    mm_r_iload_n X (show decode cX5_meaning 10 = .ok (.iload_n 0, 1) by decide +kernel) rfl,
    mm_r_bipush X (show decode cX5_meaning 11 = .ok (.bipush 111, 2) by decide +kernel) rfl,
    mm_r_ne2 X (show decode cX5_meaning 13 = .ok (.if_icmp .ne 7, 3) by decide +kernel) (by decide),
    mm_r_iconst X (show decode cX5_meaning 16 = .ok (.iconst 2, 1) by decide +kernel) rfl,
    mm_r_goto X (show decode cX5_meaning 17 = .ok (.goto 36, 3) by decide +kernel) (by decide),
    mm_r_iload_n X (show decode cX5_meaning 20 = .ok (.iload_n 0, 1) by decide +kernel) rfl,
    mm_r_bipush X (show decode cX5_meaning 21 = .ok (.bipush 120, 2) by decide +kernel) rfl,
    mm_r_ne2 X (show decode cX5_meaning 23 = .ok (.if_icmp .ne 7, 3) by decide +kernel) (by decide),
    mm_r_iconst X (show decode cX5_meaning 26 = .ok (.iconst 4, 1) by decide +kernel) rfl,
    mm_r_goto X (show decode cX5_meaning 27 = .ok (.goto 26, 3) by decide +kernel) (by decide),
    mm_r_iload_n X (show decode cX5_meaning 30 = .ok (.iload_n 0, 1) by decide +kernel) rfl,
    mm_r_bipush X (show decode cX5_meaning 31 = .ok (.bipush 35, 2) by decide +kernel) rfl,
    mm_r_ne2 X (show decode cX5_meaning 33 = .ok (.if_icmp .ne 8, 3) by decide +kernel) (by decide),
    mm_r_bipush X (show decode cX5_meaning 36 = .ok (.bipush 8, 2) by decide +kernel) rfl,
    mm_r_goto X (show decode cX5_meaning 38 = .ok (.goto 15, 3) by decide +kernel) (by decide),
    mm_r_iload_n X (show decode cX5_meaning 41 = .ok (.iload_n 0, 1) by decide +kernel) rfl,
    mm_r_bipush X (show decode cX5_meaning 42 = .ok (.bipush 42, 2) by decide +kernel) rfl,
    mm_r_ne2 X (show decode cX5_meaning 44 = .ok (.if_icmp .ne 8, 3) by decide +kernel) (by decide),
    mm_r_bipush X (show decode cX5_meaning 47 = .ok (.bipush 15, 2) by decide +kernel) rfl,
    mm_r_goto X (show decode cX5_meaning 49 = .ok (.goto 4, 3) by decide +kernel) (by decide),
    mm_r_iconst X (show decode cX5_meaning 52 = .ok (.iconst 0, 1) by decide +kernel) rfl,
    mm_r_iret X hret (show decode cX5_meaning 53 = .ok (.ireturn, 1) by decide +kernel), trivial⟩
theorem sn_X5_meaning {l : Launch} (hl : l.stackTraces = false) : mm_Snd l yX5_meaning (.code yX5_meaning cX5_meaning 1 (some .int)) 1 20 f_X5_meaning := mm_met hl (plainFor_of_name (by decide +kernel)) (ok_X5_meaning hl)
/-! Linkcourt$Patterns.canType(JI)Z -/
noncomputable def tb_X5_canType : List (Nat × mm_I) := [(0, mm_k 1 (.int 0)), (1, mm_stI 3 4), (3, mm_ldI 5 4), (5, mm_ldI 6 3), (6, mm_ge2 55 9), (9, mm_ldI 11 4), (11, mm_k 13 (.int 8)), (13, mm_ge2 55 16), (16, mm_ldR 17 0), (17, mm_ldJ 18 1), (18, mm_ldI 20 4), (20, mm_clV 23 5 2 f_X5_signOf), (23, mm_stI 25 5), (25, mm_ldI 27 5), (27, mm_clS 30 1 f_X5_meaning), (30, mm_ne1 49 33), (33, mm_ldI 35 5), (35, mm_k 37 (.int 33)), (37, mm_eq2 49 40), (40, mm_ldI 42 5), (42, mm_k 44 (.int 124)), (44, mm_eq2 49 47), (47, mm_k 48 (.int 0)), (48, mm_rtZ), (49, mm_inc 52 4 1), (52, mm_go 3), (55, mm_k 56 (.int 1)), (56, mm_rtZ)]
noncomputable def f_X5_canType : mm_F := mm_do (mm_pr tb_X5_canType) 6
theorem mn_X5_canType : mm_alln tb_X5_canType := ⟨mm_n_k _ _, mm_n_stI _ _, mm_n_ldI _ _, mm_n_ldI _ _, mm_n_ge2 _ _, mm_n_ldI _ _, mm_n_k _ _, mm_n_ge2 _ _, mm_n_ldR _ _, mm_n_ldJ _ _, mm_n_ldI _ _, mm_n_clV _ _ _ (mo_X5_signOf), mm_n_stI _ _, mm_n_ldI _ _, mm_n_clS _ _ (mo_X5_meaning), mm_n_ne1 _ _, mm_n_ldI _ _, mm_n_k _ _, mm_n_eq2 _ _, mm_n_ldI _ _, mm_n_k _ _, mm_n_eq2 _ _, mm_n_k _ _, mm_n_rtZ, mm_n_inc _ _ _, mm_n_go _, mm_n_k _ _, mm_n_rtZ, trivial⟩
theorem mo_X5_canType : mm_Mo f_X5_canType := mm_do_mo (mm_alln_mem mn_X5_canType)
set_option maxRecDepth 10000 in
theorem ok_X5_canType {l : Launch} (hl : l.stackTraces = false) : mm_Ok l yX5_canType cX5_canType 6 (some .boolean) 2 43 tb_X5_canType := by
  refine ⟨mm_alln_mem mn_X5_canType, fun p e cells slots s m args below meth c D tc A S ad Tg X hret hname htab hth => mm_allr_mem ?_⟩
  exact ⟨mm_r_iconst X (show decode cX5_canType 0 = .ok (.iconst 0, 1) by decide +kernel) rfl,
    mm_r_istore X (show decode cX5_canType 1 = .ok (.istore 4, 2) by decide +kernel) (Nat.le_of_ble_eq_true rfl),
    mm_r_iload X (show decode cX5_canType 3 = .ok (.iload 4, 2) by decide +kernel),
    mm_r_iload_n X (show decode cX5_canType 5 = .ok (.iload_n 3, 1) by decide +kernel) rfl,
    mm_r_ge2 X (show decode cX5_canType 6 = .ok (.if_icmp .ge 49, 3) by decide +kernel) (by decide),
    mm_r_iload X (show decode cX5_canType 9 = .ok (.iload 4, 2) by decide +kernel),
    mm_r_bipush X (show decode cX5_canType 11 = .ok (.bipush 8, 2) by decide +kernel) rfl,
    mm_r_ge2 X (show decode cX5_canType 13 = .ok (.if_icmp .ge 42, 3) by decide +kernel) (by decide),
    mm_r_aload_n X (show decode cX5_canType 16 = .ok (.aload_n 0, 1) by decide +kernel) rfl,
    mm_r_lload_n X (show decode cX5_canType 17 = .ok (.lload_n 1, 1) by decide +kernel) rfl,
    mm_r_iload X (show decode cX5_canType 18 = .ok (.iload 4, 2) by decide +kernel),
    mm_r_clV X hth (ci := 5) (na := 2) (sn_X5_signOf hl) rfl (show decode cX5_canType 20 = .ok (.invokevirtual 32, 3) by decide +kernel) mw_1172 mw_1169 mw_1171 mw_42 mw_53 hd_X5_signOf ⟨(Nat.le_of_ble_eq_true rfl), (Nat.le_of_ble_eq_true rfl)⟩,
    mm_r_istore X (show decode cX5_canType 23 = .ok (.istore 5, 2) by decide +kernel) (Nat.le_of_ble_eq_true rfl),
    mm_r_iload X (show decode cX5_canType 25 = .ok (.iload 5, 2) by decide +kernel),
    mm_r_clS X hth (na := 1) (sn_X5_meaning hl) (show decode cX5_canType 27 = .ok (.invokestatic 36, 3) by decide +kernel) mw_684 mw_682 mw_683 mw_53 hd_X5_meaning.2 ⟨(Nat.le_of_ble_eq_true rfl), (Nat.le_of_ble_eq_true rfl)⟩,
    mm_r_ne1 X (show decode cX5_canType 30 = .ok (.ifCond .ne 19, 3) by decide +kernel) (by decide),
    mm_r_iload X (show decode cX5_canType 33 = .ok (.iload 5, 2) by decide +kernel),
    mm_r_bipush X (show decode cX5_canType 35 = .ok (.bipush 33, 2) by decide +kernel) rfl,
    mm_r_eq2 X (show decode cX5_canType 37 = .ok (.if_icmp .eq 12, 3) by decide +kernel) (by decide),
    mm_r_iload X (show decode cX5_canType 40 = .ok (.iload 5, 2) by decide +kernel),
    mm_r_bipush X (show decode cX5_canType 42 = .ok (.bipush 124, 2) by decide +kernel) rfl,
    mm_r_eq2 X (show decode cX5_canType 44 = .ok (.if_icmp .eq 5, 3) by decide +kernel) (by decide),
    mm_r_iconst X (show decode cX5_canType 47 = .ok (.iconst 0, 1) by decide +kernel) rfl,
    mm_r_zret X hret (show decode cX5_canType 48 = .ok (.ireturn, 1) by decide +kernel),
    mm_r_iinc X (show decode cX5_canType 49 = .ok (.iinc 4 1, 3) by decide +kernel) rfl (Nat.le_of_ble_eq_true rfl),
    mm_r_goto X (show decode cX5_canType 52 = .ok (.goto (-49), 3) by decide +kernel) (by decide),
    mm_r_iconst X (show decode cX5_canType 55 = .ok (.iconst 1, 1) by decide +kernel) rfl,
    mm_r_zret X hret (show decode cX5_canType 56 = .ok (.ireturn, 1) by decide +kernel), trivial⟩
theorem sn_X5_canType {l : Launch} (hl : l.stackTraces = false) : mm_Snd l yX5_canType (.code yX5_canType cX5_canType 6 (some .boolean)) 2 43 f_X5_canType := mm_met hl (plainFor_of_name (by decide +kernel)) (ok_X5_canType hl)
