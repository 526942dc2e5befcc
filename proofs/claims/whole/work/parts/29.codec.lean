/-! codes: by program (wip/whole/gen/gencode.py) -/
/-! LinkcourtModel.spreads(JJ)J -/
noncomputable def tb_X11_spreads : List (Nat × mm_I) := [(0, mm_ldJ 1 1), (1, mm_ldJ 2 3), (2, mm_l2 3 (fun a b => a &&& b)), (3, mm_stJ 5 5), (5, mm_ldJ 7 5), (7, mm_k 8 (.long 0)), (8, mm_cmp 9), (9, mm_eq1 16 12), (12, mm_k 13 (.int 1)), (13, mm_go 17), (16, mm_k 17 (.int 0)), (17, mm_stI 19 7), (19, mm_ldI 21 7), (21, mm_eq1 96 24), (24, mm_ldJ 26 5), (26, mm_stJ 28 8), (28, mm_k 29 (.int 0)), (29, mm_stI 31 10), (31, mm_ldI 33 10), (33, mm_ldR 34 0), (34, mm_gfI 37 11 3), (37, mm_ge2 74 40), (40, mm_ldJ 42 8), (42, mm_ldJ 44 5), (44, mm_ldI 46 10), (46, mm_clS 49 2 f_X11_has), (49, mm_eq1 64 52), (52, mm_ldR 53 0), (53, mm_gfR 56 11 7), (56, mm_ldI 58 10), (58, mm_aldJ 59), (59, mm_ldJ 60 3), (60, mm_l2 61 (fun a b => a &&& b)), (61, mm_go 65), (64, mm_k 65 (.long 0)), (65, mm_l2 66 (fun a b => a ||| b)), (66, mm_stJ 68 8), (68, mm_inc 71 10 1), (71, mm_go 31), (74, mm_ldJ 76 8), (76, mm_ldJ 78 5), (78, mm_cmp 79), (79, mm_eq1 86 82), (82, mm_k 83 (.int 1)), (83, mm_go 87), (86, mm_k 87 (.int 0)), (87, mm_stI 89 7), (89, mm_ldJ 91 8), (91, mm_stJ 93 5), (93, mm_go 19), (96, mm_ldJ 98 5), (98, mm_rtJ)]
noncomputable def f_X11_spreads : mm_F := mm_do (mm_pr tb_X11_spreads) 11
theorem mn_X11_spreads : mm_alln tb_X11_spreads := ⟨mm_n_ldJ _ _, mm_n_ldJ _ _, mm_n_l2 _ _, mm_n_stJ _ _, mm_n_ldJ _ _, mm_n_k _ _, mm_n_cmp _, mm_n_eq1 _ _, mm_n_k _ _, mm_n_go _, mm_n_k _ _, mm_n_stI _ _, mm_n_ldI _ _, mm_n_eq1 _ _, mm_n_ldJ _ _, mm_n_stJ _ _, mm_n_k _ _, mm_n_stI _ _, mm_n_ldI _ _, mm_n_ldR _ _, mm_n_gfI _ _ _, mm_n_ge2 _ _, mm_n_ldJ _ _, mm_n_ldJ _ _, mm_n_ldI _ _, mm_n_clS _ _ (mo_X11_has), mm_n_eq1 _ _, mm_n_ldR _ _, mm_n_gfR _ _ _, mm_n_ldI _ _, mm_n_aldJ _, mm_n_ldJ _ _, mm_n_l2 _ _, mm_n_go _, mm_n_k _ _, mm_n_l2 _ _, mm_n_stJ _ _, mm_n_inc _ _ _, mm_n_go _, mm_n_ldJ _ _, mm_n_ldJ _ _, mm_n_cmp _, mm_n_eq1 _ _, mm_n_k _ _, mm_n_go _, mm_n_k _ _, mm_n_stI _ _, mm_n_ldJ _ _, mm_n_stJ _ _, mm_n_go _, mm_n_ldJ _ _, mm_n_rtJ, trivial⟩
theorem mo_X11_spreads : mm_Mo f_X11_spreads := mm_do_mo (mm_alln_mem mn_X11_spreads)
set_option maxRecDepth 10000 in
theorem ok_X11_spreads {l : Launch} (hl : l.stackTraces = false) : mm_Ok l yX11_spreads cX11_spreads 11 (some .long) 2 42 tb_X11_spreads := by
  refine ⟨mm_alln_mem mn_X11_spreads, fun p e cells slots s m args below meth c D tc A S ad Tg X hret hname htab hth => mm_allr_mem ?_⟩
  exact ⟨mm_r_lload_n X (show decode cX11_spreads 0 = .ok (.lload_n 1, 1) by decide +kernel) rfl,
    mm_r_lload_n X (show decode cX11_spreads 1 = .ok (.lload_n 3, 1) by decide +kernel) rfl,
    mm_r_land X (show decode cX11_spreads 2 = .ok (.land, 1) by decide +kernel),
    mm_r_lstore X (show decode cX11_spreads 3 = .ok (.lstore 5, 2) by decide +kernel) (Nat.le_of_ble_eq_true rfl),
    mm_r_lload X (show decode cX11_spreads 5 = .ok (.lload 5, 2) by decide +kernel),
    mm_r_lconst X (show decode cX11_spreads 7 = .ok (.lconst 0, 1) by decide +kernel) rfl,
    mm_r_lcmp X (show decode cX11_spreads 8 = .ok (.lcmp, 1) by decide +kernel),
    mm_r_eq1 X (show decode cX11_spreads 9 = .ok (.ifCond .eq 7, 3) by decide +kernel) (by decide),
    mm_r_iconst X (show decode cX11_spreads 12 = .ok (.iconst 1, 1) by decide +kernel) rfl,
    mm_r_goto X (show decode cX11_spreads 13 = .ok (.goto 4, 3) by decide +kernel) (by decide),
    mm_r_iconst X (show decode cX11_spreads 16 = .ok (.iconst 0, 1) by decide +kernel) rfl,
    mm_r_istore X (show decode cX11_spreads 17 = .ok (.istore 7, 2) by decide +kernel) (Nat.le_of_ble_eq_true rfl),
    mm_r_iload X (show decode cX11_spreads 19 = .ok (.iload 7, 2) by decide +kernel),
    mm_r_eq1 X (show decode cX11_spreads 21 = .ok (.ifCond .eq 75, 3) by decide +kernel) (by decide),
    mm_r_lload X (show decode cX11_spreads 24 = .ok (.lload 5, 2) by decide +kernel),
    mm_r_lstore X (show decode cX11_spreads 26 = .ok (.lstore 8, 2) by decide +kernel) (Nat.le_of_ble_eq_true rfl),
    mm_r_iconst X (show decode cX11_spreads 28 = .ok (.iconst 0, 1) by decide +kernel) rfl,
    mm_r_istore X (show decode cX11_spreads 29 = .ok (.istore 10, 2) by decide +kernel) (Nat.le_of_ble_eq_true rfl),
    mm_r_iload X (show decode cX11_spreads 31 = .ok (.iload 10, 2) by decide +kernel),
    mm_r_aload_n X (show decode cX11_spreads 33 = .ok (.aload_n 0, 1) by decide +kernel) rfl,
    mm_r_gfI X (ci := 11) (p := 3) (show mm_kd 11 3 = 0 by decide +kernel) rfl (Nat.le_of_ble_eq_true rfl) (show decode cX11_spreads 34 = .ok (.getfield 95, 3) by decide +kernel) mw_1284 rfl,
    mm_r_ge2 X (show decode cX11_spreads 37 = .ok (.if_icmp .ge 37, 3) by decide +kernel) (by decide),
    mm_r_lload X (show decode cX11_spreads 40 = .ok (.lload 8, 2) by decide +kernel),
    mm_r_lload X (show decode cX11_spreads 42 = .ok (.lload 5, 2) by decide +kernel),
    mm_r_iload X (show decode cX11_spreads 44 = .ok (.iload 10, 2) by decide +kernel),
    mm_r_clS X hth (na := 2) (sn_X11_has hl) (show decode cX11_spreads 46 = .ok (.invokestatic 91, 3) by decide +kernel) mw_1429 mw_1427 mw_1428 mw_105 hd_X11_has.2 ⟨(Nat.le_of_ble_eq_true rfl), (Nat.le_of_ble_eq_true rfl)⟩,
    mm_r_eq1 X (show decode cX11_spreads 49 = .ok (.ifCond .eq 15, 3) by decide +kernel) (by decide),
    mm_r_aload_n X (show decode cX11_spreads 52 = .ok (.aload_n 0, 1) by decide +kernel) rfl,
    mm_r_gfR X (ci := 11) (p := 7) (show mm_kd 11 7 = 2 by decide +kernel) rfl (Nat.le_of_ble_eq_true rfl) (show decode cX11_spreads 53 = .ok (.getfield 19, 3) by decide +kernel) mw_1288 rfl,
    mm_r_iload X (show decode cX11_spreads 56 = .ok (.iload 10, 2) by decide +kernel),
    mm_r_lald X (show decode cX11_spreads 58 = .ok (.laload, 1) by decide +kernel),
    mm_r_lload_n X (show decode cX11_spreads 59 = .ok (.lload_n 3, 1) by decide +kernel) rfl,
    mm_r_land X (show decode cX11_spreads 60 = .ok (.land, 1) by decide +kernel),
    mm_r_goto X (show decode cX11_spreads 61 = .ok (.goto 4, 3) by decide +kernel) (by decide),
    mm_r_lconst X (show decode cX11_spreads 64 = .ok (.lconst 0, 1) by decide +kernel) rfl,
    mm_r_lor X (show decode cX11_spreads 65 = .ok (.lor, 1) by decide +kernel),
    mm_r_lstore X (show decode cX11_spreads 66 = .ok (.lstore 8, 2) by decide +kernel) (Nat.le_of_ble_eq_true rfl),
    mm_r_iinc X (show decode cX11_spreads 68 = .ok (.iinc 10 1, 3) by decide +kernel) rfl (Nat.le_of_ble_eq_true rfl),
    mm_r_goto X (show decode cX11_spreads 71 = .ok (.goto (-40), 3) by decide +kernel) (by decide),
    mm_r_lload X (show decode cX11_spreads 74 = .ok (.lload 8, 2) by decide +kernel),
    mm_r_lload X (show decode cX11_spreads 76 = .ok (.lload 5, 2) by decide +kernel),
    mm_r_lcmp X (show decode cX11_spreads 78 = .ok (.lcmp, 1) by decide +kernel),
    mm_r_eq1 X (show decode cX11_spreads 79 = .ok (.ifCond .eq 7, 3) by decide +kernel) (by decide),
    mm_r_iconst X (show decode cX11_spreads 82 = .ok (.iconst 1, 1) by decide +kernel) rfl,
    mm_r_goto X (show decode cX11_spreads 83 = .ok (.goto 4, 3) by decide +kernel) (by decide),
    mm_r_iconst X (show decode cX11_spreads 86 = .ok (.iconst 0, 1) by decide +kernel) rfl,
    mm_r_istore X (show decode cX11_spreads 87 = .ok (.istore 7, 2) by decide +kernel) (Nat.le_of_ble_eq_true rfl),
    mm_r_lload X (show decode cX11_spreads 89 = .ok (.lload 8, 2) by decide +kernel),
    mm_r_lstore X (show decode cX11_spreads 91 = .ok (.lstore 5, 2) by decide +kernel) (Nat.le_of_ble_eq_true rfl),
    mm_r_goto X (show decode cX11_spreads 93 = .ok (.goto (-74), 3) by decide +kernel) (by decide),
    mm_r_lload X (show decode cX11_spreads 96 = .ok (.lload 5, 2) by decide +kernel),
    mm_r_lret X hret (show decode cX11_spreads 98 = .ok (.lreturn, 1) by decide +kernel), trivial⟩
theorem sn_X11_spreads {l : Launch} (hl : l.stackTraces = false) : mm_Snd l yX11_spreads (.code yX11_spreads cX11_spreads 11 (some .long)) 2 42 f_X11_spreads := mm_met hl (plainFor_of_name (by decide +kernel)) (ok_X11_spreads hl)
/-! LinkcourtModel.joins(IJ)Z -/
noncomputable def tb_X11_joins : List (Nat × mm_I) := [(0, mm_ldR 1 0), (1, mm_gfI 4 11 0), (4, mm_k 5 (.int 1)), (5, mm_ne2 98 8), (8, mm_ldJ 9 2), (9, mm_ldR 10 0), (10, mm_gfR 13 11 8), (13, mm_k 14 (.int 0)), (14, mm_aldJ 15), (15, mm_l2 16 (fun a b => a &&& b)), (16, mm_stJ 18 4), (18, mm_k 19 (.int 0)), (19, mm_stI 21 6), (21, mm_ldJ 23 4), (23, mm_k 24 (.long 0)), (24, mm_cmp 25), (25, mm_eq1 95 28), (28, mm_ldI 30 6), (30, mm_ne1 95 33), (33, mm_ldR 34 0), (34, mm_ldJ 36 4), (36, mm_ldJ 38 4), (38, mm_l1 39 (fun a => -a)), (39, mm_l2 40 (fun a b => a &&& b)), (40, mm_ldJ 41 2), (41, mm_clV 44 11 2 f_X11_spreads), (44, mm_stJ 46 7), (46, mm_ldJ 48 7), (48, mm_ldR 49 0), (49, mm_gfR 52 11 8), (52, mm_k 53 (.int 1)), (53, mm_aldJ 54), (54, mm_l2 55 (fun a b => a &&& b)), (55, mm_k 56 (.long 0)), (56, mm_cmp 57), (57, mm_eq1 78 60), (60, mm_ldJ 62 7), (62, mm_ldR 63 0), (63, mm_gfR 66 11 8), (66, mm_k 67 (.int 2)), (67, mm_aldJ 68), (68, mm_l2 69 (fun a b => a &&& b)), (69, mm_k 70 (.long 0)), (70, mm_cmp 71), (71, mm_eq1 78 74), (74, mm_k 75 (.int 1)), (75, mm_go 79), (78, mm_k 79 (.int 0)), (79, mm_stI 81 6), (81, mm_ldJ 83 4), (83, mm_ldJ 85 7), (85, mm_k 88 (.long (-1))), (88, mm_l2 89 (fun a b => a ^^^ b)), (89, mm_l2 90 (fun a b => a &&& b)), (90, mm_stJ 92 4), (92, mm_go 21), (95, mm_ldI 97 6), (97, mm_rtZ), (98, mm_ldR 99 0), (99, mm_gfI 102 11 0), (102, mm_k 103 (.int 2)), (103, mm_ne2 158 106), (106, mm_ldI 107 1), (107, mm_k 108 (.int 1)), (108, mm_ne2 158 111), (111, mm_ldR 112 0), (112, mm_gfI 115 11 3), (115, mm_clS 118 1 f_X11_bit), (118, mm_k 119 (.long 1)), (119, mm_l2 120 (fun a b => a - b)), (120, mm_stJ 122 4), (122, mm_ldR 123 0), (123, mm_ldR 124 0), (124, mm_gfR 127 11 8), (127, mm_k 128 (.int 0)), (128, mm_aldJ 129), (129, mm_ldJ 131 4), (131, mm_ldJ 132 2), (132, mm_k 135 (.long (-1))), (135, mm_l2 136 (fun a b => a ^^^ b)), (136, mm_l2 137 (fun a b => a &&& b)), (137, mm_clV 140 11 2 f_X11_spreads), (140, mm_ldR 141 0), (141, mm_gfR 144 11 8), (144, mm_k 145 (.int 1)), (145, mm_aldJ 146), (146, mm_l2 147 (fun a b => a &&& b)), (147, mm_k 148 (.long 0)), (148, mm_cmp 149), (149, mm_ne1 156 152), (152, mm_k 153 (.int 1)), (153, mm_go 157), (156, mm_k 157 (.int 0)), (157, mm_rtZ), (158, mm_ldI 159 1), (159, mm_ne1 166 162), (162, mm_k 163 (.int 0)), (163, mm_go 167), (166, mm_k 167 (.int 2)), (167, mm_stI 169 4), (169, mm_ldR 170 0), (170, mm_ldR 171 0), (171, mm_gfR 174 11 8), (174, mm_ldI 176 4), (176, mm_aldJ 177), (177, mm_ldJ 178 2), (178, mm_clV 181 11 2 f_X11_spreads), (181, mm_ldR 182 0), (182, mm_gfR 185 11 8), (185, mm_ldI 187 4), (187, mm_k 188 (.int 1)), (188, mm_i2 189 (fun a b => a + b)), (189, mm_aldJ 190), (190, mm_l2 191 (fun a b => a &&& b)), (191, mm_k 192 (.long 0)), (192, mm_cmp 193), (193, mm_eq1 200 196), (196, mm_k 197 (.int 1)), (197, mm_go 201), (200, mm_k 201 (.int 0)), (201, mm_rtZ)]
noncomputable def f_X11_joins : mm_F := mm_do (mm_pr tb_X11_joins) 9
theorem mn_X11_joins : mm_alln tb_X11_joins := ⟨mm_n_ldR _ _, mm_n_gfI _ _ _, mm_n_k _ _, mm_n_ne2 _ _, mm_n_ldJ _ _, mm_n_ldR _ _, mm_n_gfR _ _ _, mm_n_k _ _, mm_n_aldJ _, mm_n_l2 _ _, mm_n_stJ _ _, mm_n_k _ _, mm_n_stI _ _, mm_n_ldJ _ _, mm_n_k _ _, mm_n_cmp _, mm_n_eq1 _ _, mm_n_ldI _ _, mm_n_ne1 _ _, mm_n_ldR _ _, mm_n_ldJ _ _, mm_n_ldJ _ _, mm_n_l1 _ _, mm_n_l2 _ _, mm_n_ldJ _ _, mm_n_clV _ _ _ (mo_X11_spreads), mm_n_stJ _ _, mm_n_ldJ _ _, mm_n_ldR _ _, mm_n_gfR _ _ _, mm_n_k _ _, mm_n_aldJ _, mm_n_l2 _ _, mm_n_k _ _, mm_n_cmp _, mm_n_eq1 _ _, mm_n_ldJ _ _, mm_n_ldR _ _, mm_n_gfR _ _ _, mm_n_k _ _, mm_n_aldJ _, mm_n_l2 _ _, mm_n_k _ _, mm_n_cmp _, mm_n_eq1 _ _, mm_n_k _ _, mm_n_go _, mm_n_k _ _, mm_n_stI _ _, mm_n_ldJ _ _, mm_n_ldJ _ _, mm_n_k _ _, mm_n_l2 _ _, mm_n_l2 _ _, mm_n_stJ _ _, mm_n_go _, mm_n_ldI _ _, mm_n_rtZ, mm_n_ldR _ _, mm_n_gfI _ _ _, mm_n_k _ _, mm_n_ne2 _ _, mm_n_ldI _ _, mm_n_k _ _, mm_n_ne2 _ _, mm_n_ldR _ _, mm_n_gfI _ _ _, mm_n_clS _ _ (mo_X11_bit), mm_n_k _ _, mm_n_l2 _ _, mm_n_stJ _ _, mm_n_ldR _ _, mm_n_ldR _ _, mm_n_gfR _ _ _, mm_n_k _ _, mm_n_aldJ _, mm_n_ldJ _ _, mm_n_ldJ _ _, mm_n_k _ _, mm_n_l2 _ _, mm_n_l2 _ _, mm_n_clV _ _ _ (mo_X11_spreads), mm_n_ldR _ _, mm_n_gfR _ _ _, mm_n_k _ _, mm_n_aldJ _, mm_n_l2 _ _, mm_n_k _ _, mm_n_cmp _, mm_n_ne1 _ _, mm_n_k _ _, mm_n_go _, mm_n_k _ _, mm_n_rtZ, mm_n_ldI _ _, mm_n_ne1 _ _, mm_n_k _ _, mm_n_go _, mm_n_k _ _, mm_n_stI _ _, mm_n_ldR _ _, mm_n_ldR _ _, mm_n_gfR _ _ _, mm_n_ldI _ _, mm_n_aldJ _, mm_n_ldJ _ _, mm_n_clV _ _ _ (mo_X11_spreads), mm_n_ldR _ _, mm_n_gfR _ _ _, mm_n_ldI _ _, mm_n_k _ _, mm_n_i2 _ _, mm_n_aldJ _, mm_n_l2 _ _, mm_n_k _ _, mm_n_cmp _, mm_n_eq1 _ _, mm_n_k _ _, mm_n_go _, mm_n_k _ _, mm_n_rtZ, trivial⟩
theorem mo_X11_joins : mm_Mo f_X11_joins := mm_do_mo (mm_alln_mem mn_X11_joins)
set_option maxRecDepth 10000 in
theorem ok_X11_joins {l : Launch} (hl : l.stackTraces = false) : mm_Ok l yX11_joins cX11_joins 9 (some .boolean) 3 72 tb_X11_joins := by
  refine ⟨mm_alln_mem mn_X11_joins, fun p e cells slots s m args below meth c D tc A S ad Tg X hret hname htab hth => mm_allr_mem ?_⟩
  exact ⟨mm_r_aload_n X (show decode cX11_joins 0 = .ok (.aload_n 0, 1) by decide +kernel) rfl,
    mm_r_gfI X (ci := 11) (p := 0) (show mm_kd 11 0 = 0 by decide +kernel) rfl (Nat.le_of_ble_eq_true rfl) (show decode cX11_joins 1 = .ok (.getfield 105, 3) by decide +kernel) mw_1281 rfl,
    mm_r_iconst X (show decode cX11_joins 4 = .ok (.iconst 1, 1) by decide +kernel) rfl,
    mm_r_ne2 X (show decode cX11_joins 5 = .ok (.if_icmp .ne 93, 3) by decide +kernel) (by decide),
    mm_r_lload_n X (show decode cX11_joins 8 = .ok (.lload_n 2, 1) by decide +kernel) rfl,
    mm_r_aload_n X (show decode cX11_joins 9 = .ok (.aload_n 0, 1) by decide +kernel) rfl,
    mm_r_gfR X (ci := 11) (p := 8) (show mm_kd 11 8 = 2 by decide +kernel) rfl (Nat.le_of_ble_eq_true rfl) (show decode cX11_joins 10 = .ok (.getfield 23, 3) by decide +kernel) mw_1289 rfl,
    mm_r_iconst X (show decode cX11_joins 13 = .ok (.iconst 0, 1) by decide +kernel) rfl,
    mm_r_lald X (show decode cX11_joins 14 = .ok (.laload, 1) by decide +kernel),
    mm_r_land X (show decode cX11_joins 15 = .ok (.land, 1) by decide +kernel),
    mm_r_lstore X (show decode cX11_joins 16 = .ok (.lstore 4, 2) by decide +kernel) (Nat.le_of_ble_eq_true rfl),
    mm_r_iconst X (show decode cX11_joins 18 = .ok (.iconst 0, 1) by decide +kernel) rfl,
    mm_r_istore X (show decode cX11_joins 19 = .ok (.istore 6, 2) by decide +kernel) (Nat.le_of_ble_eq_true rfl),
    mm_r_lload X (show decode cX11_joins 21 = .ok (.lload 4, 2) by decide +kernel),
    mm_r_lconst X (show decode cX11_joins 23 = .ok (.lconst 0, 1) by decide +kernel) rfl,
    mm_r_lcmp X (show decode cX11_joins 24 = .ok (.lcmp, 1) by decide +kernel),
    mm_r_eq1 X (show decode cX11_joins 25 = .ok (.ifCond .eq 70, 3) by decide +kernel) (by decide),
    mm_r_iload X (show decode cX11_joins 28 = .ok (.iload 6, 2) by decide +kernel),
    mm_r_ne1 X (show decode cX11_joins 30 = .ok (.ifCond .ne 65, 3) by decide +kernel) (by decide),
    mm_r_aload_n X (show decode cX11_joins 33 = .ok (.aload_n 0, 1) by decide +kernel) rfl,
    mm_r_lload X (show decode cX11_joins 34 = .ok (.lload 4, 2) by decide +kernel),
    mm_r_lload X (show decode cX11_joins 36 = .ok (.lload 4, 2) by decide +kernel),
    mm_r_lneg X (show decode cX11_joins 38 = .ok (.lneg, 1) by decide +kernel),
    mm_r_land X (show decode cX11_joins 39 = .ok (.land, 1) by decide +kernel),
    mm_r_lload_n X (show decode cX11_joins 40 = .ok (.lload_n 2, 1) by decide +kernel) rfl,
    mm_r_clV X hth (ci := 11) (na := 2) (sn_X11_spreads hl) rfl (show decode cX11_joins 41 = .ok (.invokevirtual 147, 3) by decide +kernel) mw_1453 mw_1450 mw_1452 mw_56 mw_105 hd_X11_spreads ⟨(Nat.le_of_ble_eq_true rfl), (Nat.le_of_ble_eq_true rfl)⟩,
    mm_r_lstore X (show decode cX11_joins 44 = .ok (.lstore 7, 2) by decide +kernel) (Nat.le_of_ble_eq_true rfl),
    mm_r_lload X (show decode cX11_joins 46 = .ok (.lload 7, 2) by decide +kernel),
    mm_r_aload_n X (show decode cX11_joins 48 = .ok (.aload_n 0, 1) by decide +kernel) rfl,
    mm_r_gfR X (ci := 11) (p := 8) (show mm_kd 11 8 = 2 by decide +kernel) rfl (Nat.le_of_ble_eq_true rfl) (show decode cX11_joins 49 = .ok (.getfield 23, 3) by decide +kernel) mw_1289 rfl,
    mm_r_iconst X (show decode cX11_joins 52 = .ok (.iconst 1, 1) by decide +kernel) rfl,
    mm_r_lald X (show decode cX11_joins 53 = .ok (.laload, 1) by decide +kernel),
    mm_r_land X (show decode cX11_joins 54 = .ok (.land, 1) by decide +kernel),
    mm_r_lconst X (show decode cX11_joins 55 = .ok (.lconst 0, 1) by decide +kernel) rfl,
    mm_r_lcmp X (show decode cX11_joins 56 = .ok (.lcmp, 1) by decide +kernel),
    mm_r_eq1 X (show decode cX11_joins 57 = .ok (.ifCond .eq 21, 3) by decide +kernel) (by decide),
    mm_r_lload X (show decode cX11_joins 60 = .ok (.lload 7, 2) by decide +kernel),
    mm_r_aload_n X (show decode cX11_joins 62 = .ok (.aload_n 0, 1) by decide +kernel) rfl,
    mm_r_gfR X (ci := 11) (p := 8) (show mm_kd 11 8 = 2 by decide +kernel) rfl (Nat.le_of_ble_eq_true rfl) (show decode cX11_joins 63 = .ok (.getfield 23, 3) by decide +kernel) mw_1289 rfl,
    mm_r_iconst X (show decode cX11_joins 66 = .ok (.iconst 2, 1) by decide +kernel) rfl,
    mm_r_lald X (show decode cX11_joins 67 = .ok (.laload, 1) by decide +kernel),
    mm_r_land X (show decode cX11_joins 68 = .ok (.land, 1) by decide +kernel),
    mm_r_lconst X (show decode cX11_joins 69 = .ok (.lconst 0, 1) by decide +kernel) rfl,
    mm_r_lcmp X (show decode cX11_joins 70 = .ok (.lcmp, 1) by decide +kernel),
    mm_r_eq1 X (show decode cX11_joins 71 = .ok (.ifCond .eq 7, 3) by decide +kernel) (by decide),
    mm_r_iconst X (show decode cX11_joins 74 = .ok (.iconst 1, 1) by decide +kernel) rfl,
    mm_r_goto X (show decode cX11_joins 75 = .ok (.goto 4, 3) by decide +kernel) (by decide),
    mm_r_iconst X (show decode cX11_joins 78 = .ok (.iconst 0, 1) by decide +kernel) rfl,
    mm_r_istore X (show decode cX11_joins 79 = .ok (.istore 6, 2) by decide +kernel) (Nat.le_of_ble_eq_true rfl),
    mm_r_lload X (show decode cX11_joins 81 = .ok (.lload 4, 2) by decide +kernel),
    mm_r_lload X (show decode cX11_joins 83 = .ok (.lload 7, 2) by decide +kernel),
    mm_r_ldc2 X (show decode cX11_joins 85 = .ok (.ldc2_w 151, 3) by decide +kernel) mw_1426,
    mm_r_lxor X (show decode cX11_joins 88 = .ok (.lxor, 1) by decide +kernel),
    mm_r_land X (show decode cX11_joins 89 = .ok (.land, 1) by decide +kernel),
    mm_r_lstore X (show decode cX11_joins 90 = .ok (.lstore 4, 2) by decide +kernel) (Nat.le_of_ble_eq_true rfl),
    mm_r_goto X (show decode cX11_joins 92 = .ok (.goto (-71), 3) by decide +kernel) (by decide),
    mm_r_iload X (show decode cX11_joins 95 = .ok (.iload 6, 2) by decide +kernel),
    mm_r_zret X hret (show decode cX11_joins 97 = .ok (.ireturn, 1) by decide +kernel),
    mm_r_aload_n X (show decode cX11_joins 98 = .ok (.aload_n 0, 1) by decide +kernel) rfl,
    mm_r_gfI X (ci := 11) (p := 0) (show mm_kd 11 0 = 0 by decide +kernel) rfl (Nat.le_of_ble_eq_true rfl) (show decode cX11_joins 99 = .ok (.getfield 105, 3) by decide +kernel) mw_1281 rfl,
    mm_r_iconst X (show decode cX11_joins 102 = .ok (.iconst 2, 1) by decide +kernel) rfl,
    mm_r_ne2 X (show decode cX11_joins 103 = .ok (.if_icmp .ne 55, 3) by decide +kernel) (by decide),
    mm_r_iload_n X (show decode cX11_joins 106 = .ok (.iload_n 1, 1) by decide +kernel) rfl,
    mm_r_iconst X (show decode cX11_joins 107 = .ok (.iconst 1, 1) by decide +kernel) rfl,
    mm_r_ne2 X (show decode cX11_joins 108 = .ok (.if_icmp .ne 50, 3) by decide +kernel) (by decide),
    mm_r_aload_n X (show decode cX11_joins 111 = .ok (.aload_n 0, 1) by decide +kernel) rfl,
    mm_r_gfI X (ci := 11) (p := 3) (show mm_kd 11 3 = 0 by decide +kernel) rfl (Nat.le_of_ble_eq_true rfl) (show decode cX11_joins 112 = .ok (.getfield 95, 3) by decide +kernel) mw_1284 rfl,
    mm_r_clS X hth (na := 1) (sn_X11_bit hl) (show decode cX11_joins 115 = .ok (.invokestatic 119, 3) by decide +kernel) mw_1272 mw_1270 mw_1271 mw_105 hd_X11_bit.2 ⟨(Nat.le_of_ble_eq_true rfl), (Nat.le_of_ble_eq_true rfl)⟩,
    mm_r_lconst X (show decode cX11_joins 118 = .ok (.lconst 1, 1) by decide +kernel) rfl,
    mm_r_lsub X (show decode cX11_joins 119 = .ok (.lsub, 1) by decide +kernel),
    mm_r_lstore X (show decode cX11_joins 120 = .ok (.lstore 4, 2) by decide +kernel) (Nat.le_of_ble_eq_true rfl),
    mm_r_aload_n X (show decode cX11_joins 122 = .ok (.aload_n 0, 1) by decide +kernel) rfl,
    mm_r_aload_n X (show decode cX11_joins 123 = .ok (.aload_n 0, 1) by decide +kernel) rfl,
    mm_r_gfR X (ci := 11) (p := 8) (show mm_kd 11 8 = 2 by decide +kernel) rfl (Nat.le_of_ble_eq_true rfl) (show decode cX11_joins 124 = .ok (.getfield 23, 3) by decide +kernel) mw_1289 rfl,
    mm_r_iconst X (show decode cX11_joins 127 = .ok (.iconst 0, 1) by decide +kernel) rfl,
    mm_r_lald X (show decode cX11_joins 128 = .ok (.laload, 1) by decide +kernel),
    mm_r_lload X (show decode cX11_joins 129 = .ok (.lload 4, 2) by decide +kernel),
    mm_r_lload_n X (show decode cX11_joins 131 = .ok (.lload_n 2, 1) by decide +kernel) rfl,
    mm_r_ldc2 X (show decode cX11_joins 132 = .ok (.ldc2_w 151, 3) by decide +kernel) mw_1426,
    mm_r_lxor X (show decode cX11_joins 135 = .ok (.lxor, 1) by decide +kernel),
    mm_r_land X (show decode cX11_joins 136 = .ok (.land, 1) by decide +kernel),
    mm_r_clV X hth (ci := 11) (na := 2) (sn_X11_spreads hl) rfl (show decode cX11_joins 137 = .ok (.invokevirtual 147, 3) by decide +kernel) mw_1453 mw_1450 mw_1452 mw_56 mw_105 hd_X11_spreads ⟨(Nat.le_of_ble_eq_true rfl), (Nat.le_of_ble_eq_true rfl)⟩,
    mm_r_aload_n X (show decode cX11_joins 140 = .ok (.aload_n 0, 1) by decide +kernel) rfl,
    mm_r_gfR X (ci := 11) (p := 8) (show mm_kd 11 8 = 2 by decide +kernel) rfl (Nat.le_of_ble_eq_true rfl) (show decode cX11_joins 141 = .ok (.getfield 23, 3) by decide +kernel) mw_1289 rfl,
    mm_r_iconst X (show decode cX11_joins 144 = .ok (.iconst 1, 1) by decide +kernel) rfl,
    mm_r_lald X (show decode cX11_joins 145 = .ok (.laload, 1) by decide +kernel),
    mm_r_land X (show decode cX11_joins 146 = .ok (.land, 1) by decide +kernel),
    mm_r_lconst X (show decode cX11_joins 147 = .ok (.lconst 0, 1) by decide +kernel) rfl,
    mm_r_lcmp X (show decode cX11_joins 148 = .ok (.lcmp, 1) by decide +kernel),
    mm_r_ne1 X (show decode cX11_joins 149 = .ok (.ifCond .ne 7, 3) by decide +kernel) (by decide),
    mm_r_iconst X (show decode cX11_joins 152 = .ok (.iconst 1, 1) by decide +kernel) rfl,
    mm_r_goto X (show decode cX11_joins 153 = .ok (.goto 4, 3) by decide +kernel) (by decide),
    mm_r_iconst X (show decode cX11_joins 156 = .ok (.iconst 0, 1) by decide +kernel) rfl,
    mm_r_zret X hret (show decode cX11_joins 157 = .ok (.ireturn, 1) by decide +kernel),
    mm_r_iload_n X (show decode cX11_joins 158 = .ok (.iload_n 1, 1) by decide +kernel) rfl,
    mm_r_ne1 X (show decode cX11_joins 159 = .ok (.ifCond .ne 7, 3) by decide +kernel) (by decide),
    mm_r_iconst X (show decode cX11_joins 162 = .ok (.iconst 0, 1) by decide +kernel) rfl,
    mm_r_goto X (show decode cX11_joins 163 = .ok (.goto 4, 3) by decide +kernel) (by decide),
    mm_r_iconst X (show decode cX11_joins 166 = .ok (.iconst 2, 1) by decide +kernel) rfl,
    mm_r_istore X (show decode cX11_joins 167 = .ok (.istore 4, 2) by decide +kernel) (Nat.le_of_ble_eq_true rfl),
    mm_r_aload_n X (show decode cX11_joins 169 = .ok (.aload_n 0, 1) by decide +kernel) rfl,
    mm_r_aload_n X (show decode cX11_joins 170 = .ok (.aload_n 0, 1) by decide +kernel) rfl,
    mm_r_gfR X (ci := 11) (p := 8) (show mm_kd 11 8 = 2 by decide +kernel) rfl (Nat.le_of_ble_eq_true rfl) (show decode cX11_joins 171 = .ok (.getfield 23, 3) by decide +kernel) mw_1289 rfl,
    mm_r_iload X (show decode cX11_joins 174 = .ok (.iload 4, 2) by decide +kernel),
    mm_r_lald X (show decode cX11_joins 176 = .ok (.laload, 1) by decide +kernel),
    mm_r_lload_n X (show decode cX11_joins 177 = .ok (.lload_n 2, 1) by decide +kernel) rfl,
    mm_r_clV X hth (ci := 11) (na := 2) (sn_X11_spreads hl) rfl (show decode cX11_joins 178 = .ok (.invokevirtual 147, 3) by decide +kernel) mw_1453 mw_1450 mw_1452 mw_56 mw_105 hd_X11_spreads ⟨(Nat.le_of_ble_eq_true rfl), (Nat.le_of_ble_eq_true rfl)⟩,
    mm_r_aload_n X (show decode cX11_joins 181 = .ok (.aload_n 0, 1) by decide +kernel) rfl,
    mm_r_gfR X (ci := 11) (p := 8) (show mm_kd 11 8 = 2 by decide +kernel) rfl (Nat.le_of_ble_eq_true rfl) (show decode cX11_joins 182 = .ok (.getfield 23, 3) by decide +kernel) mw_1289 rfl,
    mm_r_iload X (show decode cX11_joins 185 = .ok (.iload 4, 2) by decide +kernel),
    mm_r_iconst X (show decode cX11_joins 187 = .ok (.iconst 1, 1) by decide +kernel) rfl,
    mm_r_iadd X (show decode cX11_joins 188 = .ok (.iadd, 1) by decide +kernel),
    mm_r_lald X (show decode cX11_joins 189 = .ok (.laload, 1) by decide +kernel),
    mm_r_land X (show decode cX11_joins 190 = .ok (.land, 1) by decide +kernel),
    mm_r_lconst X (show decode cX11_joins 191 = .ok (.lconst 0, 1) by decide +kernel) rfl,
    mm_r_lcmp X (show decode cX11_joins 192 = .ok (.lcmp, 1) by decide +kernel),
    mm_r_eq1 X (show decode cX11_joins 193 = .ok (.ifCond .eq 7, 3) by decide +kernel) (by decide),
    mm_r_iconst X (show decode cX11_joins 196 = .ok (.iconst 1, 1) by decide +kernel) rfl,
    mm_r_goto X (show decode cX11_joins 197 = .ok (.goto 4, 3) by decide +kernel) (by decide),
    mm_r_iconst X (show decode cX11_joins 200 = .ok (.iconst 0, 1) by decide +kernel) rfl,
    mm_r_zret X hret (show decode cX11_joins 201 = .ok (.ireturn, 1) by decide +kernel), trivial⟩
theorem sn_X11_joins {l : Launch} (hl : l.stackTraces = false) : mm_Snd l yX11_joins (.code yX11_joins cX11_joins 9 (some .boolean)) 3 72 f_X11_joins := mm_met hl (plainFor_of_name (by decide +kernel)) (ok_X11_joins hl)
/-! LinkcourtModel.joined(JJ)I -/
noncomputable def tb_X11_joined : List (Nat × mm_I) := [(0, mm_ldR 1 0), (1, mm_k 2 (.int 0)), (2, mm_ldJ 3 1), (3, mm_clV 6 11 2 f_X11_joins), (6, mm_eq1 13 9), (9, mm_k 10 (.int 0)), (10, mm_go 27), (13, mm_ldR 14 0), (14, mm_k 15 (.int 1)), (15, mm_ldJ 16 3), (16, mm_clV 19 11 2 f_X11_joins), (19, mm_eq1 26 22), (22, mm_k 23 (.int 1)), (23, mm_go 27), (26, mm_k 27 (.int (-1))), (27, mm_rtI)]
noncomputable def f_X11_joined : mm_F := mm_do (mm_pr tb_X11_joined) 5
theorem mn_X11_joined : mm_alln tb_X11_joined := ⟨mm_n_ldR _ _, mm_n_k _ _, mm_n_ldJ _ _, mm_n_clV _ _ _ (mo_X11_joins), mm_n_eq1 _ _, mm_n_k _ _, mm_n_go _, mm_n_ldR _ _, mm_n_k _ _, mm_n_ldJ _ _, mm_n_clV _ _ _ (mo_X11_joins), mm_n_eq1 _ _, mm_n_k _ _, mm_n_go _, mm_n_k _ _, mm_n_rtI, trivial⟩
theorem mo_X11_joined : mm_Mo f_X11_joined := mm_do_mo (mm_alln_mem mn_X11_joined)
set_option maxRecDepth 10000 in
theorem ok_X11_joined {l : Launch} (hl : l.stackTraces = false) : mm_Ok l yX11_joined cX11_joined 5 (some .int) 4 100 tb_X11_joined := by
  refine ⟨mm_alln_mem mn_X11_joined, fun p e cells slots s m args below meth c D tc A S ad Tg X hret hname htab hth => mm_allr_mem ?_⟩
  exact ⟨mm_r_aload_n X (show decode cX11_joined 0 = .ok (.aload_n 0, 1) by decide +kernel) rfl,
    mm_r_iconst X (show decode cX11_joined 1 = .ok (.iconst 0, 1) by decide +kernel) rfl,
    mm_r_lload_n X (show decode cX11_joined 2 = .ok (.lload_n 1, 1) by decide +kernel) rfl,
    mm_r_clV X hth (ci := 11) (na := 2) (sn_X11_joins hl) rfl (show decode cX11_joined 3 = .ok (.invokevirtual 153, 3) by decide +kernel) mw_1449 mw_1446 mw_1448 mw_55 mw_105 hd_X11_joins ⟨(Nat.le_of_ble_eq_true rfl), (Nat.le_of_ble_eq_true rfl)⟩,
    mm_r_eq1 X (show decode cX11_joined 6 = .ok (.ifCond .eq 7, 3) by decide +kernel) (by decide),
    mm_r_iconst X (show decode cX11_joined 9 = .ok (.iconst 0, 1) by decide +kernel) rfl,
    mm_r_goto X (show decode cX11_joined 10 = .ok (.goto 17, 3) by decide +kernel) (by decide),
    mm_r_aload_n X (show decode cX11_joined 13 = .ok (.aload_n 0, 1) by decide +kernel) rfl,
    mm_r_iconst X (show decode cX11_joined 14 = .ok (.iconst 1, 1) by decide +kernel) rfl,
    mm_r_lload_n X (show decode cX11_joined 15 = .ok (.lload_n 3, 1) by decide +kernel) rfl,
    mm_r_clV X hth (ci := 11) (na := 2) (sn_X11_joins hl) rfl (show decode cX11_joined 16 = .ok (.invokevirtual 153, 3) by decide +kernel) mw_1449 mw_1446 mw_1448 mw_55 mw_105 hd_X11_joins ⟨(Nat.le_of_ble_eq_true rfl), (Nat.le_of_ble_eq_true rfl)⟩,
    mm_r_eq1 X (show decode cX11_joined 19 = .ok (.ifCond .eq 7, 3) by decide +kernel) (by decide),
    mm_r_iconst X (show decode cX11_joined 22 = .ok (.iconst 1, 1) by decide +kernel) rfl,
    mm_r_goto X (show decode cX11_joined 23 = .ok (.goto 4, 3) by decide +kernel) (by decide),
    mm_r_iconst X (show decode cX11_joined 26 = .ok (.iconst (-1), 1) by decide +kernel) rfl,
    mm_r_iret X hret (show decode cX11_joined 27 = .ok (.ireturn, 1) by decide +kernel), trivial⟩
theorem sn_X11_joined {l : Launch} (hl : l.stackTraces = false) : mm_Snd l yX11_joined (.code yX11_joined cX11_joined 5 (some .int)) 4 100 f_X11_joined := mm_met hl (plainFor_of_name (by decide +kernel)) (ok_X11_joined hl)
/-! LinkcourtModel.joinedNow()I -/
noncomputable def tb_X11_joinedNow : List (Nat × mm_I) := [(0, mm_ldR 1 0), (1, mm_ldR 2 0), (2, mm_gfR 5 11 9), (5, mm_k 6 (.int 0)), (6, mm_aldJ 7), (7, mm_ldR 8 0), (8, mm_gfR 11 11 9), (11, mm_k 12 (.int 1)), (12, mm_aldJ 13), (13, mm_clV 16 11 2 f_X11_joined), (16, mm_rtI)]
noncomputable def f_X11_joinedNow : mm_F := mm_do (mm_pr tb_X11_joinedNow) 1
theorem mn_X11_joinedNow : mm_alln tb_X11_joinedNow := ⟨mm_n_ldR _ _, mm_n_ldR _ _, mm_n_gfR _ _ _, mm_n_k _ _, mm_n_aldJ _, mm_n_ldR _ _, mm_n_gfR _ _ _, mm_n_k _ _, mm_n_aldJ _, mm_n_clV _ _ _ (mo_X11_joined), mm_n_rtI, trivial⟩
theorem mo_X11_joinedNow : mm_Mo f_X11_joinedNow := mm_do_mo (mm_alln_mem mn_X11_joinedNow)
set_option maxRecDepth 10000 in
theorem ok_X11_joinedNow {l : Launch} (hl : l.stackTraces = false) : mm_Ok l yX11_joinedNow cX11_joinedNow 1 (some .int) 5 124 tb_X11_joinedNow := by
  refine ⟨mm_alln_mem mn_X11_joinedNow, fun p e cells slots s m args below meth c D tc A S ad Tg X hret hname htab hth => mm_allr_mem ?_⟩
  exact ⟨mm_r_aload_n X (show decode cX11_joinedNow 0 = .ok (.aload_n 0, 1) by decide +kernel) rfl,
    mm_r_aload_n X (show decode cX11_joinedNow 1 = .ok (.aload_n 0, 1) by decide +kernel) rfl,
    mm_r_gfR X (ci := 11) (p := 9) (show mm_kd 11 9 = 2 by decide +kernel) rfl (Nat.le_of_ble_eq_true rfl) (show decode cX11_joinedNow 2 = .ok (.getfield 26, 3) by decide +kernel) mw_1290 rfl,
    mm_r_iconst X (show decode cX11_joinedNow 5 = .ok (.iconst 0, 1) by decide +kernel) rfl,
    mm_r_lald X (show decode cX11_joinedNow 6 = .ok (.laload, 1) by decide +kernel),
    mm_r_aload_n X (show decode cX11_joinedNow 7 = .ok (.aload_n 0, 1) by decide +kernel) rfl,
    mm_r_gfR X (ci := 11) (p := 9) (show mm_kd 11 9 = 2 by decide +kernel) rfl (Nat.le_of_ble_eq_true rfl) (show decode cX11_joinedNow 8 = .ok (.getfield 26, 3) by decide +kernel) mw_1290 rfl,
    mm_r_iconst X (show decode cX11_joinedNow 11 = .ok (.iconst 1, 1) by decide +kernel) rfl,
    mm_r_lald X (show decode cX11_joinedNow 12 = .ok (.laload, 1) by decide +kernel),
    mm_r_clV X hth (ci := 11) (na := 2) (sn_X11_joined hl) rfl (show decode cX11_joinedNow 13 = .ok (.invokevirtual 157, 3) by decide +kernel) mw_1445 mw_1442 mw_1444 mw_54 mw_105 hd_X11_joined ⟨(Nat.le_of_ble_eq_true rfl), (Nat.le_of_ble_eq_true rfl)⟩,
    mm_r_iret X hret (show decode cX11_joinedNow 16 = .ok (.ireturn, 1) by decide +kernel), trivial⟩
theorem sn_X11_joinedNow {l : Launch} (hl : l.stackTraces = false) : mm_Snd l yX11_joinedNow (.code yX11_joinedNow cX11_joinedNow 1 (some .int)) 5 124 f_X11_joinedNow := mm_met hl (plainFor_of_name (by decide +kernel)) (ok_X11_joinedNow hl)
/-! LinkcourtModel.winner()I -/
noncomputable def tb_X11_winner : List (Nat × mm_I) := [(0, mm_ldR 1 0), (1, mm_gfI 4 11 13), (4, mm_k 5 (.int (-1))), (5, mm_eq2 15 8), (8, mm_ldR 9 0), (9, mm_gfI 12 11 13), (12, mm_go 19), (15, mm_ldR 16 0), (16, mm_clV 19 11 0 f_X11_joinedNow), (19, mm_rtI)]
noncomputable def f_X11_winner : mm_F := mm_do (mm_pr tb_X11_winner) 1
theorem mn_X11_winner : mm_alln tb_X11_winner := ⟨mm_n_ldR _ _, mm_n_gfI _ _ _, mm_n_k _ _, mm_n_eq2 _ _, mm_n_ldR _ _, mm_n_gfI _ _ _, mm_n_go _, mm_n_ldR _ _, mm_n_clV _ _ _ (mo_X11_joinedNow), mm_n_rtI, trivial⟩
theorem mo_X11_winner : mm_Mo f_X11_winner := mm_do_mo (mm_alln_mem mn_X11_winner)
set_option maxRecDepth 10000 in
theorem ok_X11_winner {l : Launch} (hl : l.stackTraces = false) : mm_Ok l yX11_winner cX11_winner 1 (some .int) 6 144 tb_X11_winner := by
  refine ⟨mm_alln_mem mn_X11_winner, fun p e cells slots s m args below meth c D tc A S ad Tg X hret hname htab hth => mm_allr_mem ?_⟩
  exact ⟨mm_r_aload_n X (show decode cX11_winner 0 = .ok (.aload_n 0, 1) by decide +kernel) rfl,
    mm_r_gfI X (ci := 11) (p := 13) (show mm_kd 11 13 = 0 by decide +kernel) rfl (Nat.le_of_ble_eq_true rfl) (show decode cX11_winner 1 = .ok (.getfield 138, 3) by decide +kernel) mw_1294 rfl,
    mm_r_iconst X (show decode cX11_winner 4 = .ok (.iconst (-1), 1) by decide +kernel) rfl,
    mm_r_eq2 X (show decode cX11_winner 5 = .ok (.if_icmp .eq 10, 3) by decide +kernel) (by decide),
    mm_r_aload_n X (show decode cX11_winner 8 = .ok (.aload_n 0, 1) by decide +kernel) rfl,
    mm_r_gfI X (ci := 11) (p := 13) (show mm_kd 11 13 = 0 by decide +kernel) rfl (Nat.le_of_ble_eq_true rfl) (show decode cX11_winner 9 = .ok (.getfield 138, 3) by decide +kernel) mw_1294 rfl,
    mm_r_goto X (show decode cX11_winner 12 = .ok (.goto 7, 3) by decide +kernel) (by decide),
    mm_r_aload_n X (show decode cX11_winner 15 = .ok (.aload_n 0, 1) by decide +kernel) rfl,
    mm_r_clV X hth (ci := 11) (na := 0) (sn_X11_joinedNow hl) rfl (show decode cX11_winner 16 = .ok (.invokevirtual 161, 3) by decide +kernel) mw_1441 mw_1438 mw_1440 mw_53 mw_105 hd_X11_joinedNow ⟨(Nat.le_of_ble_eq_true rfl), (Nat.le_of_ble_eq_true rfl)⟩,
    mm_r_iret X hret (show decode cX11_winner 19 = .ok (.ireturn, 1) by decide +kernel), trivial⟩
theorem sn_X11_winner {l : Launch} (hl : l.stackTraces = false) : mm_Snd l yX11_winner (.code yX11_winner cX11_winner 1 (some .int)) 6 144 f_X11_winner := mm_met hl (plainFor_of_name (by decide +kernel)) (ok_X11_winner hl)
/-! LinkcourtModel.emptyCells()J -/
noncomputable def tb_X11_emptyCells : List (Nat × mm_I) := [(0, mm_ldR 1 0), (1, mm_gfI 4 11 3), (4, mm_clS 7 1 f_X11_bit), (7, mm_k 8 (.long 1)), (8, mm_l2 9 (fun a b => a - b)), (9, mm_ldR 10 0), (10, mm_gfR 13 11 9), (13, mm_k 14 (.int 0)), (14, mm_aldJ 15), (15, mm_k 18 (.long (-1))), (18, mm_l2 19 (fun a b => a ^^^ b)), (19, mm_l2 20 (fun a b => a &&& b)), (20, mm_ldR 21 0), (21, mm_gfR 24 11 9), (24, mm_k 25 (.int 1)), (25, mm_aldJ 26), (26, mm_k 29 (.long (-1))), (29, mm_l2 30 (fun a b => a ^^^ b)), (30, mm_l2 31 (fun a b => a &&& b)), (31, mm_rtJ)]
noncomputable def f_X11_emptyCells : mm_F := mm_do (mm_pr tb_X11_emptyCells) 1
theorem mn_X11_emptyCells : mm_alln tb_X11_emptyCells := ⟨mm_n_ldR _ _, mm_n_gfI _ _ _, mm_n_clS _ _ (mo_X11_bit), mm_n_k _ _, mm_n_l2 _ _, mm_n_ldR _ _, mm_n_gfR _ _ _, mm_n_k _ _, mm_n_aldJ _, mm_n_k _ _, mm_n_l2 _ _, mm_n_l2 _ _, mm_n_ldR _ _, mm_n_gfR _ _ _, mm_n_k _ _, mm_n_aldJ _, mm_n_k _ _, mm_n_l2 _ _, mm_n_l2 _ _, mm_n_rtJ, trivial⟩
theorem mo_X11_emptyCells : mm_Mo f_X11_emptyCells := mm_do_mo (mm_alln_mem mn_X11_emptyCells)
set_option maxRecDepth 10000 in
theorem ok_X11_emptyCells {l : Launch} (hl : l.stackTraces = false) : mm_Ok l yX11_emptyCells cX11_emptyCells 1 (some .long) 2 40 tb_X11_emptyCells := by
  refine ⟨mm_alln_mem mn_X11_emptyCells, fun p e cells slots s m args below meth c D tc A S ad Tg X hret hname htab hth => mm_allr_mem ?_⟩
  exact ⟨mm_r_aload_n X (show decode cX11_emptyCells 0 = .ok (.aload_n 0, 1) by decide +kernel) rfl,
    mm_r_gfI X (ci := 11) (p := 3) (show mm_kd 11 3 = 0 by decide +kernel) rfl (Nat.le_of_ble_eq_true rfl) (show decode cX11_emptyCells 1 = .ok (.getfield 95, 3) by decide +kernel) mw_1284 rfl,
    mm_r_clS X hth (na := 1) (sn_X11_bit hl) (show decode cX11_emptyCells 4 = .ok (.invokestatic 119, 3) by decide +kernel) mw_1272 mw_1270 mw_1271 mw_105 hd_X11_bit.2 ⟨(Nat.le_of_ble_eq_true rfl), (Nat.le_of_ble_eq_true rfl)⟩,
    mm_r_lconst X (show decode cX11_emptyCells 7 = .ok (.lconst 1, 1) by decide +kernel) rfl,
    mm_r_lsub X (show decode cX11_emptyCells 8 = .ok (.lsub, 1) by decide +kernel),
    mm_r_aload_n X (show decode cX11_emptyCells 9 = .ok (.aload_n 0, 1) by decide +kernel) rfl,
    mm_r_gfR X (ci := 11) (p := 9) (show mm_kd 11 9 = 2 by decide +kernel) rfl (Nat.le_of_ble_eq_true rfl) (show decode cX11_emptyCells 10 = .ok (.getfield 26, 3) by decide +kernel) mw_1290 rfl,
    mm_r_iconst X (show decode cX11_emptyCells 13 = .ok (.iconst 0, 1) by decide +kernel) rfl,
    mm_r_lald X (show decode cX11_emptyCells 14 = .ok (.laload, 1) by decide +kernel),
    mm_r_ldc2 X (show decode cX11_emptyCells 15 = .ok (.ldc2_w 151, 3) by decide +kernel) mw_1426,
    mm_r_lxor X (show decode cX11_emptyCells 18 = .ok (.lxor, 1) by decide +kernel),
    mm_r_land X (show decode cX11_emptyCells 19 = .ok (.land, 1) by decide +kernel),
    mm_r_aload_n X (show decode cX11_emptyCells 20 = .ok (.aload_n 0, 1) by decide +kernel) rfl,
    mm_r_gfR X (ci := 11) (p := 9) (show mm_kd 11 9 = 2 by decide +kernel) rfl (Nat.le_of_ble_eq_true rfl) (show decode cX11_emptyCells 21 = .ok (.getfield 26, 3) by decide +kernel) mw_1290 rfl,
    mm_r_iconst X (show decode cX11_emptyCells 24 = .ok (.iconst 1, 1) by decide +kernel) rfl,
    mm_r_lald X (show decode cX11_emptyCells 25 = .ok (.laload, 1) by decide +kernel),
    mm_r_ldc2 X (show decode cX11_emptyCells 26 = .ok (.ldc2_w 151, 3) by decide +kernel) mw_1426,
    mm_r_lxor X (show decode cX11_emptyCells 29 = .ok (.lxor, 1) by decide +kernel),
    mm_r_land X (show decode cX11_emptyCells 30 = .ok (.land, 1) by decide +kernel),
    mm_r_lret X hret (show decode cX11_emptyCells 31 = .ok (.lreturn, 1) by decide +kernel), trivial⟩
theorem sn_X11_emptyCells {l : Launch} (hl : l.stackTraces = false) : mm_Snd l yX11_emptyCells (.code yX11_emptyCells cX11_emptyCells 1 (some .long)) 2 40 f_X11_emptyCells := mm_met hl (plainFor_of_name (by decide +kernel)) (ok_X11_emptyCells hl)
/-! LinkcourtModel.groupOf(I)J -/
noncomputable def tb_X11_groupOf : List (Nat × mm_I) := [(0, mm_ldR 1 0), (1, mm_gfR 4 11 9), (4, mm_k 5 (.int 0)), (5, mm_aldJ 6), (6, mm_ldI 7 1), (7, mm_clS 10 2 f_X11_has), (10, mm_eq1 22 13), (13, mm_ldR 14 0), (14, mm_gfR 17 11 9), (17, mm_k 18 (.int 0)), (18, mm_aldJ 19), (19, mm_go 28), (22, mm_ldR 23 0), (23, mm_gfR 26 11 9), (26, mm_k 27 (.int 1)), (27, mm_aldJ 28), (28, mm_stJ 29 2), (29, mm_ldR 30 0), (30, mm_ldI 31 1), (31, mm_clS 34 1 f_X11_bit), (34, mm_ldJ 35 2), (35, mm_clV 38 11 2 f_X11_spreads), (38, mm_rtJ)]
noncomputable def f_X11_groupOf : mm_F := mm_do (mm_pr tb_X11_groupOf) 4
theorem mn_X11_groupOf : mm_alln tb_X11_groupOf := ⟨mm_n_ldR _ _, mm_n_gfR _ _ _, mm_n_k _ _, mm_n_aldJ _, mm_n_ldI _ _, mm_n_clS _ _ (mo_X11_has), mm_n_eq1 _ _, mm_n_ldR _ _, mm_n_gfR _ _ _, mm_n_k _ _, mm_n_aldJ _, mm_n_go _, mm_n_ldR _ _, mm_n_gfR _ _ _, mm_n_k _ _, mm_n_aldJ _, mm_n_stJ _ _, mm_n_ldR _ _, mm_n_ldI _ _, mm_n_clS _ _ (mo_X11_bit), mm_n_ldJ _ _, mm_n_clV _ _ _ (mo_X11_spreads), mm_n_rtJ, trivial⟩
theorem mo_X11_groupOf : mm_Mo f_X11_groupOf := mm_do_mo (mm_alln_mem mn_X11_groupOf)
set_option maxRecDepth 10000 in
theorem ok_X11_groupOf {l : Launch} (hl : l.stackTraces = false) : mm_Ok l yX11_groupOf cX11_groupOf 4 (some .long) 3 72 tb_X11_groupOf := by
  refine ⟨mm_alln_mem mn_X11_groupOf, fun p e cells slots s m args below meth c D tc A S ad Tg X hret hname htab hth => mm_allr_mem ?_⟩
  exact ⟨mm_r_aload_n X (show decode cX11_groupOf 0 = .ok (.aload_n 0, 1) by decide +kernel) rfl,
    mm_r_gfR X (ci := 11) (p := 9) (show mm_kd 11 9 = 2 by decide +kernel) rfl (Nat.le_of_ble_eq_true rfl) (show decode cX11_groupOf 1 = .ok (.getfield 26, 3) by decide +kernel) mw_1290 rfl,
    mm_r_iconst X (show decode cX11_groupOf 4 = .ok (.iconst 0, 1) by decide +kernel) rfl,
    mm_r_lald X (show decode cX11_groupOf 5 = .ok (.laload, 1) by decide +kernel),
    mm_r_iload_n X (show decode cX11_groupOf 6 = .ok (.iload_n 1, 1) by decide +kernel) rfl,
    mm_r_clS X hth (na := 2) (sn_X11_has hl) (show decode cX11_groupOf 7 = .ok (.invokestatic 91, 3) by decide +kernel) mw_1429 mw_1427 mw_1428 mw_105 hd_X11_has.2 ⟨(Nat.le_of_ble_eq_true rfl), (Nat.le_of_ble_eq_true rfl)⟩,
    mm_r_eq1 X (show decode cX11_groupOf 10 = .ok (.ifCond .eq 12, 3) by decide +kernel) (by decide),
    mm_r_aload_n X (show decode cX11_groupOf 13 = .ok (.aload_n 0, 1) by decide +kernel) rfl,
    mm_r_gfR X (ci := 11) (p := 9) (show mm_kd 11 9 = 2 by decide +kernel) rfl (Nat.le_of_ble_eq_true rfl) (show decode cX11_groupOf 14 = .ok (.getfield 26, 3) by decide +kernel) mw_1290 rfl,
    mm_r_iconst X (show decode cX11_groupOf 17 = .ok (.iconst 0, 1) by decide +kernel) rfl,
    mm_r_lald X (show decode cX11_groupOf 18 = .ok (.laload, 1) by decide +kernel),
    mm_r_goto X (show decode cX11_groupOf 19 = .ok (.goto 9, 3) by decide +kernel) (by decide),
    mm_r_aload_n X (show decode cX11_groupOf 22 = .ok (.aload_n 0, 1) by decide +kernel) rfl,
    mm_r_gfR X (ci := 11) (p := 9) (show mm_kd 11 9 = 2 by decide +kernel) rfl (Nat.le_of_ble_eq_true rfl) (show decode cX11_groupOf 23 = .ok (.getfield 26, 3) by decide +kernel) mw_1290 rfl,
    mm_r_iconst X (show decode cX11_groupOf 26 = .ok (.iconst 1, 1) by decide +kernel) rfl,
    mm_r_lald X (show decode cX11_groupOf 27 = .ok (.laload, 1) by decide +kernel),
    mm_r_lstore_n X (show decode cX11_groupOf 28 = .ok (.lstore_n 2, 1) by decide +kernel) rfl (Nat.le_of_ble_eq_true rfl),
    mm_r_aload_n X (show decode cX11_groupOf 29 = .ok (.aload_n 0, 1) by decide +kernel) rfl,
    mm_r_iload_n X (show decode cX11_groupOf 30 = .ok (.iload_n 1, 1) by decide +kernel) rfl,
    mm_r_clS X hth (na := 1) (sn_X11_bit hl) (show decode cX11_groupOf 31 = .ok (.invokestatic 119, 3) by decide +kernel) mw_1272 mw_1270 mw_1271 mw_105 hd_X11_bit.2 ⟨(Nat.le_of_ble_eq_true rfl), (Nat.le_of_ble_eq_true rfl)⟩,
    mm_r_lload_n X (show decode cX11_groupOf 34 = .ok (.lload_n 2, 1) by decide +kernel) rfl,
    mm_r_clV X hth (ci := 11) (na := 2) (sn_X11_spreads hl) rfl (show decode cX11_groupOf 35 = .ok (.invokevirtual 147, 3) by decide +kernel) mw_1453 mw_1450 mw_1452 mw_56 mw_105 hd_X11_spreads ⟨(Nat.le_of_ble_eq_true rfl), (Nat.le_of_ble_eq_true rfl)⟩,
    mm_r_lret X hret (show decode cX11_groupOf 38 = .ok (.lreturn, 1) by decide +kernel), trivial⟩
theorem sn_X11_groupOf {l : Launch} (hl : l.stackTraces = false) : mm_Snd l yX11_groupOf (.code yX11_groupOf cX11_groupOf 4 (some .long)) 3 72 f_X11_groupOf := mm_met hl (plainFor_of_name (by decide +kernel)) (ok_X11_groupOf hl)
/-! LinkcourtModel.groups(I)I -/
noncomputable def tb_X11_groups : List (Nat × mm_I) := [(0, mm_ldR 1 0), (1, mm_gfR 4 11 9), (4, mm_ldI 5 1), (5, mm_aldJ 6), (6, mm_stJ 7 2), (7, mm_k 8 (.int 0)), (8, mm_stI 10 4), (10, mm_ldJ 11 2), (11, mm_k 12 (.long 0)), (12, mm_cmp 13), (13, mm_eq1 43 16), (16, mm_ldJ 17 2), (17, mm_ldR 18 0), (18, mm_ldJ 19 2), (19, mm_ldJ 20 2), (20, mm_l1 21 (fun a => -a)), (21, mm_l2 22 (fun a b => a &&& b)), (22, mm_ldR 23 0), (23, mm_gfR 26 11 9), (26, mm_ldI 27 1), (27, mm_aldJ 28), (28, mm_clV 31 11 2 f_X11_spreads), (31, mm_k 34 (.long (-1))), (34, mm_l2 35 (fun a b => a ^^^ b)), (35, mm_l2 36 (fun a b => a &&& b)), (36, mm_stJ 37 2), (37, mm_inc 40 4 1), (40, mm_go 10), (43, mm_ldI 45 4), (45, mm_rtI)]
noncomputable def f_X11_groups : mm_F := mm_do (mm_pr tb_X11_groups) 5
theorem mn_X11_groups : mm_alln tb_X11_groups := ⟨mm_n_ldR _ _, mm_n_gfR _ _ _, mm_n_ldI _ _, mm_n_aldJ _, mm_n_stJ _ _, mm_n_k _ _, mm_n_stI _ _, mm_n_ldJ _ _, mm_n_k _ _, mm_n_cmp _, mm_n_eq1 _ _, mm_n_ldJ _ _, mm_n_ldR _ _, mm_n_ldJ _ _, mm_n_ldJ _ _, mm_n_l1 _ _, mm_n_l2 _ _, mm_n_ldR _ _, mm_n_gfR _ _ _, mm_n_ldI _ _, mm_n_aldJ _, mm_n_clV _ _ _ (mo_X11_spreads), mm_n_k _ _, mm_n_l2 _ _, mm_n_l2 _ _, mm_n_stJ _ _, mm_n_inc _ _ _, mm_n_go _, mm_n_ldI _ _, mm_n_rtI, trivial⟩
theorem mo_X11_groups : mm_Mo f_X11_groups := mm_do_mo (mm_alln_mem mn_X11_groups)
set_option maxRecDepth 10000 in
theorem ok_X11_groups {l : Launch} (hl : l.stackTraces = false) : mm_Ok l yX11_groups cX11_groups 5 (some .int) 3 72 tb_X11_groups := by
  refine ⟨mm_alln_mem mn_X11_groups, fun p e cells slots s m args below meth c D tc A S ad Tg X hret hname htab hth => mm_allr_mem ?_⟩
  exact ⟨mm_r_aload_n X (show decode cX11_groups 0 = .ok (.aload_n 0, 1) by decide +kernel) rfl,
    mm_r_gfR X (ci := 11) (p := 9) (show mm_kd 11 9 = 2 by decide +kernel) rfl (Nat.le_of_ble_eq_true rfl) (show decode cX11_groups 1 = .ok (.getfield 26, 3) by decide +kernel) mw_1290 rfl,
    mm_r_iload_n X (show decode cX11_groups 4 = .ok (.iload_n 1, 1) by decide +kernel) rfl,
    mm_r_lald X (show decode cX11_groups 5 = .ok (.laload, 1) by decide +kernel),
    mm_r_lstore_n X (show decode cX11_groups 6 = .ok (.lstore_n 2, 1) by decide +kernel) rfl (Nat.le_of_ble_eq_true rfl),
    mm_r_iconst X (show decode cX11_groups 7 = .ok (.iconst 0, 1) by decide +kernel) rfl,
    mm_r_istore X (show decode cX11_groups 8 = .ok (.istore 4, 2) by decide +kernel) (Nat.le_of_ble_eq_true rfl),
    mm_r_lload_n X (show decode cX11_groups 10 = .ok (.lload_n 2, 1) by decide +kernel) rfl,
    mm_r_lconst X (show decode cX11_groups 11 = .ok (.lconst 0, 1) by decide +kernel) rfl,
    mm_r_lcmp X (show decode cX11_groups 12 = .ok (.lcmp, 1) by decide +kernel),
    mm_r_eq1 X (show decode cX11_groups 13 = .ok (.ifCond .eq 30, 3) by decide +kernel) (by decide),
    mm_r_lload_n X (show decode cX11_groups 16 = .ok (.lload_n 2, 1) by decide +kernel) rfl,
    mm_r_aload_n X (show decode cX11_groups 17 = .ok (.aload_n 0, 1) by decide +kernel) rfl,
    mm_r_lload_n X (show decode cX11_groups 18 = .ok (.lload_n 2, 1) by decide +kernel) rfl,
    mm_r_lload_n X (show decode cX11_groups 19 = .ok (.lload_n 2, 1) by decide +kernel) rfl,
    mm_r_lneg X (show decode cX11_groups 20 = .ok (.lneg, 1) by decide +kernel),
    mm_r_land X (show decode cX11_groups 21 = .ok (.land, 1) by decide +kernel),
    mm_r_aload_n X (show decode cX11_groups 22 = .ok (.aload_n 0, 1) by decide +kernel) rfl,
    mm_r_gfR X (ci := 11) (p := 9) (show mm_kd 11 9 = 2 by decide +kernel) rfl (Nat.le_of_ble_eq_true rfl) (show decode cX11_groups 23 = .ok (.getfield 26, 3) by decide +kernel) mw_1290 rfl,
    mm_r_iload_n X (show decode cX11_groups 26 = .ok (.iload_n 1, 1) by decide +kernel) rfl,
    mm_r_lald X (show decode cX11_groups 27 = .ok (.laload, 1) by decide +kernel),
    mm_r_clV X hth (ci := 11) (na := 2) (sn_X11_spreads hl) rfl (show decode cX11_groups 28 = .ok (.invokevirtual 147, 3) by decide +kernel) mw_1453 mw_1450 mw_1452 mw_56 mw_105 hd_X11_spreads ⟨(Nat.le_of_ble_eq_true rfl), (Nat.le_of_ble_eq_true rfl)⟩,
    mm_r_ldc2 X (show decode cX11_groups 31 = .ok (.ldc2_w 151, 3) by decide +kernel) mw_1426,
    mm_r_lxor X (show decode cX11_groups 34 = .ok (.lxor, 1) by decide +kernel),
    mm_r_land X (show decode cX11_groups 35 = .ok (.land, 1) by decide +kernel),
    mm_r_lstore_n X (show decode cX11_groups 36 = .ok (.lstore_n 2, 1) by decide +kernel) rfl (Nat.le_of_ble_eq_true rfl),
    mm_r_iinc X (show decode cX11_groups 37 = .ok (.iinc 4 1, 3) by decide +kernel) rfl (Nat.le_of_ble_eq_true rfl),
    mm_r_goto X (show decode cX11_groups 40 = .ok (.goto (-30), 3) by decide +kernel) (by decide),
    mm_r_iload X (show decode cX11_groups 43 = .ok (.iload 4, 2) by decide +kernel),
    mm_r_iret X hret (show decode cX11_groups 45 = .ok (.ireturn, 1) by decide +kernel), trivial⟩
theorem sn_X11_groups {l : Launch} (hl : l.stackTraces = false) : mm_Snd l yX11_groups (.code yX11_groups cX11_groups 5 (some .int)) 3 72 f_X11_groups := mm_met hl (plainFor_of_name (by decide +kernel)) (ok_X11_groups hl)
/-! LinkcourtModel.lowest(J)I -/
noncomputable def tb_X11_lowest : List (Nat × mm_I) := [(0, mm_k 1 (.int 0)), (1, mm_stI 2 2), (2, mm_ldI 3 2), (3, mm_k 5 (.int 36)), (5, mm_ge2 22 8), (8, mm_ldJ 9 0), (9, mm_ldI 10 2), (10, mm_clS 13 2 f_X11_has), (13, mm_ne1 22 16), (16, mm_inc 19 2 1), (19, mm_go 2), (22, mm_ldI 23 2), (23, mm_k 25 (.int 36)), (25, mm_ge2 32 28), (28, mm_ldI 29 2), (29, mm_go 33), (32, mm_k 33 (.int (-1))), (33, mm_rtI)]
noncomputable def f_X11_lowest : mm_F := mm_do (mm_pr tb_X11_lowest) 3
theorem mn_X11_lowest : mm_alln tb_X11_lowest := ⟨mm_n_k _ _, mm_n_stI _ _, mm_n_ldI _ _, mm_n_k _ _, mm_n_ge2 _ _, mm_n_ldJ _ _, mm_n_ldI _ _, mm_n_clS _ _ (mo_X11_has), mm_n_ne1 _ _, mm_n_inc _ _ _, mm_n_go _, mm_n_ldI _ _, mm_n_k _ _, mm_n_ge2 _ _, mm_n_ldI _ _, mm_n_go _, mm_n_k _ _, mm_n_rtI, trivial⟩
theorem mo_X11_lowest : mm_Mo f_X11_lowest := mm_do_mo (mm_alln_mem mn_X11_lowest)
set_option maxRecDepth 10000 in
theorem ok_X11_lowest {l : Launch} (hl : l.stackTraces = false) : mm_Ok l yX11_lowest cX11_lowest 3 (some .int) 2 42 tb_X11_lowest := by
  refine ⟨mm_alln_mem mn_X11_lowest, fun p e cells slots s m args below meth c D tc A S ad Tg X hret hname htab hth => mm_allr_mem ?_⟩
  exact ⟨mm_r_iconst X (show decode cX11_lowest 0 = .ok (.iconst 0, 1) by decide +kernel) rfl,
    mm_r_istore_n X (show decode cX11_lowest 1 = .ok (.istore_n 2, 1) by decide +kernel) rfl (Nat.le_of_ble_eq_true rfl),
    mm_r_iload_n X (show decode cX11_lowest 2 = .ok (.iload_n 2, 1) by decide +kernel) rfl,
    mm_r_bipush X (show decode cX11_lowest 3 = .ok (.bipush 36, 2) by decide +kernel) rfl,
    mm_r_ge2 X (show decode cX11_lowest 5 = .ok (.if_icmp .ge 17, 3) by decide +kernel) (by decide),
    mm_r_lload_n X (show decode cX11_lowest 8 = .ok (.lload_n 0, 1) by decide +kernel) rfl,
    mm_r_iload_n X (show decode cX11_lowest 9 = .ok (.iload_n 2, 1) by decide +kernel) rfl,
    mm_r_clS X hth (na := 2) (sn_X11_has hl) (show decode cX11_lowest 10 = .ok (.invokestatic 91, 3) by decide +kernel) mw_1429 mw_1427 mw_1428 mw_105 hd_X11_has.2 ⟨(Nat.le_of_ble_eq_true rfl), (Nat.le_of_ble_eq_true rfl)⟩,
    mm_r_ne1 X (show decode cX11_lowest 13 = .ok (.ifCond .ne 9, 3) by decide +kernel) (by decide),
    mm_r_iinc X (show decode cX11_lowest 16 = .ok (.iinc 2 1, 3) by decide +kernel) rfl (Nat.le_of_ble_eq_true rfl),
    mm_r_goto X (show decode cX11_lowest 19 = .ok (.goto (-17), 3) by decide +kernel) (by decide),
    mm_r_iload_n X (show decode cX11_lowest 22 = .ok (.iload_n 2, 1) by decide +kernel) rfl,
    mm_r_bipush X (show decode cX11_lowest 23 = .ok (.bipush 36, 2) by decide +kernel) rfl,
    mm_r_ge2 X (show decode cX11_lowest 25 = .ok (.if_icmp .ge 7, 3) by decide +kernel) (by decide),
    mm_r_iload_n X (show decode cX11_lowest 28 = .ok (.iload_n 2, 1) by decide +kernel) rfl,
    mm_r_goto X (show decode cX11_lowest 29 = .ok (.goto 4, 3) by decide +kernel) (by decide),
    mm_r_iconst X (show decode cX11_lowest 32 = .ok (.iconst (-1), 1) by decide +kernel) rfl,
    mm_r_iret X hret (show decode cX11_lowest 33 = .ok (.ireturn, 1) by decide +kernel), trivial⟩
theorem sn_X11_lowest {l : Launch} (hl : l.stackTraces = false) : mm_Snd l yX11_lowest (.code yX11_lowest cX11_lowest 3 (some .int)) 2 42 f_X11_lowest := mm_met hl (plainFor_of_name (by decide +kernel)) (ok_X11_lowest hl)
/-! LinkcourtModel.game(III)I -/
noncomputable def tb_X11_game : List (Nat × mm_I) := [(0, mm_ldI 1 1), (1, mm_k 2 (.int 0)), (2, mm_k 3 (.int 2)), (3, mm_clS 6 3 f_X11_in), (6, mm_eq1 23 9), (9, mm_ldI 10 2), (10, mm_k 11 (.int 2)), (11, mm_k 13 (.int 6)), (13, mm_clS 16 3 f_X11_in), (16, mm_eq1 23 19), (19, mm_k 20 (.int 1)), (20, mm_go 24), (23, mm_k 24 (.int 0)), (24, mm_stI 26 4), (26, mm_ldI 28 4), (28, mm_eq1 66 31), (31, mm_ldI 32 1), (32, mm_k 33 (.int 1)), (33, mm_ne2 44 36), (36, mm_ldI 37 3), (37, mm_ldI 38 2), (38, mm_ne2 66 41), (41, mm_go 62), (44, mm_ldI 45 3), (45, mm_ldI 46 1), (46, mm_ne1 53 49), (49, mm_k 50 (.int 2)), (50, mm_go 54), (53, mm_k 54 (.int 3)), (54, mm_k 56 (.int 6)), (56, mm_clS 59 3 f_X11_in), (59, mm_eq1 66 62), (62, mm_k 63 (.int 1)), (63, mm_go 67), (66, mm_k 67 (.int 0)), (67, mm_stI 69 4), (69, mm_ldR 70 0), (70, mm_ldI 72 4), (72, mm_clV 75 11 1 f_X11_asks), (75, mm_ne1 80 78), (78, mm_k 79 (.int 0)), (79, mm_rtI), (80, mm_ldR 81 0), (81, mm_ldI 82 1), (82, mm_ldI 83 2), (83, mm_ldI 84 3), (84, mm_clV 87 11 3 f_X11_begins), (87, mm_ldR 88 0), (88, mm_gfI 91 11 3), (91, mm_rtI)]
noncomputable def f_X11_game : mm_F := mm_do (mm_pr tb_X11_game) 5
theorem mn_X11_game : mm_alln tb_X11_game := ⟨mm_n_ldI _ _, mm_n_k _ _, mm_n_k _ _, mm_n_clS _ _ (mo_X11_in), mm_n_eq1 _ _, mm_n_ldI _ _, mm_n_k _ _, mm_n_k _ _, mm_n_clS _ _ (mo_X11_in), mm_n_eq1 _ _, mm_n_k _ _, mm_n_go _, mm_n_k _ _, mm_n_stI _ _, mm_n_ldI _ _, mm_n_eq1 _ _, mm_n_ldI _ _, mm_n_k _ _, mm_n_ne2 _ _, mm_n_ldI _ _, mm_n_ldI _ _, mm_n_ne2 _ _, mm_n_go _, mm_n_ldI _ _, mm_n_ldI _ _, mm_n_ne1 _ _, mm_n_k _ _, mm_n_go _, mm_n_k _ _, mm_n_k _ _, mm_n_clS _ _ (mo_X11_in), mm_n_eq1 _ _, mm_n_k _ _, mm_n_go _, mm_n_k _ _, mm_n_stI _ _, mm_n_ldR _ _, mm_n_ldI _ _, mm_n_clV _ _ _ (mo_X11_asks), mm_n_ne1 _ _, mm_n_k _ _, mm_n_rtI, mm_n_ldR _ _, mm_n_ldI _ _, mm_n_ldI _ _, mm_n_ldI _ _, mm_n_clV _ _ _ (mo_X11_begins), mm_n_ldR _ _, mm_n_gfI _ _ _, mm_n_rtI, trivial⟩
theorem mo_X11_game : mm_Mo f_X11_game := mm_do_mo (mm_alln_mem mn_X11_game)
set_option maxRecDepth 10000 in
theorem ok_X11_game {l : Launch} (hl : l.stackTraces = false) : mm_Ok l yX11_game cX11_game 5 (some .int) 5 115 tb_X11_game := by
  refine ⟨mm_alln_mem mn_X11_game, fun p e cells slots s m args below meth c D tc A S ad Tg X hret hname htab hth => mm_allr_mem ?_⟩
  exact ⟨mm_r_iload_n X (show decode cX11_game 0 = .ok (.iload_n 1, 1) by decide +kernel) rfl,
    mm_r_iconst X (show decode cX11_game 1 = .ok (.iconst 0, 1) by decide +kernel) rfl,
    mm_r_iconst X (show decode cX11_game 2 = .ok (.iconst 2, 1) by decide +kernel) rfl,
    mm_r_clS X hth (na := 3) (sn_X11_in hl) (show decode cX11_game 3 = .ok (.invokestatic 98, 3) by decide +kernel) mw_1269 mw_1267 mw_1268 mw_105 hd_X11_in.2 ⟨(Nat.le_of_ble_eq_true rfl), (Nat.le_of_ble_eq_true rfl)⟩,
    mm_r_eq1 X (show decode cX11_game 6 = .ok (.ifCond .eq 17, 3) by decide +kernel) (by decide),
    mm_r_iload_n X (show decode cX11_game 9 = .ok (.iload_n 2, 1) by decide +kernel) rfl,
    mm_r_iconst X (show decode cX11_game 10 = .ok (.iconst 2, 1) by decide +kernel) rfl,
    mm_r_bipush X (show decode cX11_game 11 = .ok (.bipush 6, 2) by decide +kernel) rfl,
    mm_r_clS X hth (na := 3) (sn_X11_in hl) (show decode cX11_game 13 = .ok (.invokestatic 98, 3) by decide +kernel) mw_1269 mw_1267 mw_1268 mw_105 hd_X11_in.2 ⟨(Nat.le_of_ble_eq_true rfl), (Nat.le_of_ble_eq_true rfl)⟩,
    mm_r_eq1 X (show decode cX11_game 16 = .ok (.ifCond .eq 7, 3) by decide +kernel) (by decide),
    mm_r_iconst X (show decode cX11_game 19 = .ok (.iconst 1, 1) by decide +kernel) rfl,
    mm_r_goto X (show decode cX11_game 20 = .ok (.goto 4, 3) by decide +kernel) (by decide),
    mm_r_iconst X (show decode cX11_game 23 = .ok (.iconst 0, 1) by decide +kernel) rfl,
    mm_r_istore X (show decode cX11_game 24 = .ok (.istore 4, 2) by decide +kernel) (Nat.le_of_ble_eq_true rfl),
    mm_r_iload X (show decode cX11_game 26 = .ok (.iload 4, 2) by decide +kernel),
    mm_r_eq1 X (show decode cX11_game 28 = .ok (.ifCond .eq 38, 3) by decide +kernel) (by decide),
    mm_r_iload_n X (show decode cX11_game 31 = .ok (.iload_n 1, 1) by decide +kernel) rfl,
    mm_r_iconst X (show decode cX11_game 32 = .ok (.iconst 1, 1) by decide +kernel) rfl,
    mm_r_ne2 X (show decode cX11_game 33 = .ok (.if_icmp .ne 11, 3) by decide +kernel) (by decide),
    mm_r_iload_n X (show decode cX11_game 36 = .ok (.iload_n 3, 1) by decide +kernel) rfl,
    mm_r_iload_n X (show decode cX11_game 37 = .ok (.iload_n 2, 1) by decide +kernel) rfl,
    mm_r_ne2 X (show decode cX11_game 38 = .ok (.if_icmp .ne 28, 3) by decide +kernel) (by decide),
    mm_r_goto X (show decode cX11_game 41 = .ok (.goto 21, 3) by decide +kernel) (by decide),
    mm_r_iload_n X (show decode cX11_game 44 = .ok (.iload_n 3, 1) by decide +kernel) rfl,
    mm_r_iload_n X (show decode cX11_game 45 = .ok (.iload_n 1, 1) by decide +kernel) rfl,
    mm_r_ne1 X (show decode cX11_game 46 = .ok (.ifCond .ne 7, 3) by decide +kernel) (by decide),
    mm_r_iconst X (show decode cX11_game 49 = .ok (.iconst 2, 1) by decide +kernel) rfl,
    mm_r_goto X (show decode cX11_game 50 = .ok (.goto 4, 3) by decide +kernel) (by decide),
    mm_r_iconst X (show decode cX11_game 53 = .ok (.iconst 3, 1) by decide +kernel) rfl,
    mm_r_bipush X (show decode cX11_game 54 = .ok (.bipush 6, 2) by decide +kernel) rfl,
    mm_r_clS X hth (na := 3) (sn_X11_in hl) (show decode cX11_game 56 = .ok (.invokestatic 98, 3) by decide +kernel) mw_1269 mw_1267 mw_1268 mw_105 hd_X11_in.2 ⟨(Nat.le_of_ble_eq_true rfl), (Nat.le_of_ble_eq_true rfl)⟩,
    mm_r_eq1 X (show decode cX11_game 59 = .ok (.ifCond .eq 7, 3) by decide +kernel) (by decide),
    mm_r_iconst X (show decode cX11_game 62 = .ok (.iconst 1, 1) by decide +kernel) rfl,
    mm_r_goto X (show decode cX11_game 63 = .ok (.goto 4, 3) by decide +kernel) (by decide),
    mm_r_iconst X (show decode cX11_game 66 = .ok (.iconst 0, 1) by decide +kernel) rfl,
    mm_r_istore X (show decode cX11_game 67 = .ok (.istore 4, 2) by decide +kernel) (Nat.le_of_ble_eq_true rfl),
    mm_r_aload_n X (show decode cX11_game 69 = .ok (.aload_n 0, 1) by decide +kernel) rfl,
    mm_r_iload X (show decode cX11_game 70 = .ok (.iload 4, 2) by decide +kernel),
    mm_r_clV X hth (ci := 11) (na := 1) (sn_X11_asks hl) rfl (show decode cX11_game 72 = .ok (.invokevirtual 164, 3) by decide +kernel) mw_1413 mw_1410 mw_1412 mw_48 mw_105 hd_X11_asks ⟨(Nat.le_of_ble_eq_true rfl), (Nat.le_of_ble_eq_true rfl)⟩,
    mm_r_ne1 X (show decode cX11_game 75 = .ok (.ifCond .ne 5, 3) by decide +kernel) (by decide),
    mm_r_iconst X (show decode cX11_game 78 = .ok (.iconst 0, 1) by decide +kernel) rfl,
    mm_r_iret X hret (show decode cX11_game 79 = .ok (.ireturn, 1) by decide +kernel),
    mm_r_aload_n X (show decode cX11_game 80 = .ok (.aload_n 0, 1) by decide +kernel) rfl,
    mm_r_iload_n X (show decode cX11_game 81 = .ok (.iload_n 1, 1) by decide +kernel) rfl,
    mm_r_iload_n X (show decode cX11_game 82 = .ok (.iload_n 2, 1) by decide +kernel) rfl,
    mm_r_iload_n X (show decode cX11_game 83 = .ok (.iload_n 3, 1) by decide +kernel) rfl,
    mm_r_clV X hth (ci := 11) (na := 3) (sn_X11_begins hl) rfl (show decode cX11_game 84 = .ok (.invokevirtual 83, 3) by decide +kernel) mw_1258 mw_1255 mw_1257 mw_43 mw_105 hd_X11_begins ⟨(Nat.le_of_ble_eq_true rfl), (Nat.le_of_ble_eq_true rfl)⟩,
    mm_r_aload_n X (show decode cX11_game 87 = .ok (.aload_n 0, 1) by decide +kernel) rfl,
    mm_r_gfI X (ci := 11) (p := 3) (show mm_kd 11 3 = 0 by decide +kernel) rfl (Nat.le_of_ble_eq_true rfl) (show decode cX11_game 88 = .ok (.getfield 95, 3) by decide +kernel) mw_1284 rfl,
    mm_r_iret X hret (show decode cX11_game 91 = .ok (.ireturn, 1) by decide +kernel), trivial⟩
theorem sn_X11_game {l : Launch} (hl : l.stackTraces = false) : mm_Snd l yX11_game (.code yX11_game cX11_game 5 (some .int)) 5 115 f_X11_game := mm_met hl (plainFor_of_name (by decide +kernel)) (ok_X11_game hl)
/-! LinkcourtModel.turn()I -/
noncomputable def tb_X11_turn : List (Nat × mm_I) := [(0, mm_ldR 1 0), (1, mm_gfI 4 11 10), (4, mm_k 5 (.int 2)), (5, mm_i3 6 (fun a b => a - a / b * b)), (6, mm_rtI)]
noncomputable def f_X11_turn : mm_F := mm_do (mm_pr tb_X11_turn) 1
theorem mn_X11_turn : mm_alln tb_X11_turn := ⟨mm_n_ldR _ _, mm_n_gfI _ _ _, mm_n_k _ _, mm_n_i3 _ _, mm_n_rtI, trivial⟩
theorem mo_X11_turn : mm_Mo f_X11_turn := mm_do_mo (mm_alln_mem mn_X11_turn)
set_option maxRecDepth 10000 in
theorem ok_X11_turn {l : Launch} (hl : l.stackTraces = false) : mm_Ok l yX11_turn cX11_turn 1 (some .int) 1 20 tb_X11_turn := by
  refine ⟨mm_alln_mem mn_X11_turn, fun p e cells slots s m args below meth c D tc A S ad Tg X hret hname htab hth => mm_allr_mem ?_⟩
  exact ⟨mm_r_aload_n X (show decode cX11_turn 0 = .ok (.aload_n 0, 1) by decide +kernel) rfl,
    mm_r_gfI X (ci := 11) (p := 10) (show mm_kd 11 10 = 0 by decide +kernel) rfl (Nat.le_of_ble_eq_true rfl) (show decode cX11_turn 1 = .ok (.getfield 131, 3) by decide +kernel) mw_1291 rfl,
    mm_r_iconst X (show decode cX11_turn 4 = .ok (.iconst 2, 1) by decide +kernel) rfl,
    mm_r_irem X (show decode cX11_turn 5 = .ok (.irem, 1) by decide +kernel),
    mm_r_iret X hret (show decode cX11_turn 6 = .ok (.ireturn, 1) by decide +kernel), trivial⟩
theorem sn_X11_turn {l : Launch} (hl : l.stackTraces = false) : mm_Snd l yX11_turn (.code yX11_turn cX11_turn 1 (some .int)) 1 20 f_X11_turn := mm_met hl (plainFor_of_name (by decide +kernel)) (ok_X11_turn hl)
/-! LinkcourtModel.move(I)I -/
noncomputable def tb_X11_move : List (Nat × mm_I) := [(0, mm_ldR 1 0), (1, mm_ldR 2 0), (2, mm_ldI 3 1), (3, mm_clV 6 11 1 f_X11_isCell), (6, mm_clV 9 11 1 f_X11_asks), (9, mm_ne1 14 12), (12, mm_k 13 (.int 0)), (13, mm_rtI), (14, mm_ldR 15 0), (15, mm_clV 18 11 0 f_X11_emptyCells), (18, mm_ldI 19 1), (19, mm_clS 22 2 f_X11_has), (22, mm_ne1 31 25), (25, mm_ldR 26 0), (26, mm_k 27 (.int 2)), (27, mm_clV 30 11 1 f_X11_fails), (30, mm_rtI), (31, mm_ldR 32 0), (32, mm_clV 35 11 0 f_X11_winner), (35, mm_k 36 (.int (-1))), (36, mm_eq2 45 39), (39, mm_ldR 40 0), (40, mm_k 41 (.int 3)), (41, mm_clV 44 11 1 f_X11_fails), (44, mm_rtI), (45, mm_ldR 46 0), (46, mm_gfR 49 11 19), (49, mm_ldR 50 0), (50, mm_clV 53 11 0 f_X11_turn), (53, mm_k 54 (.int 0)), (54, mm_ast 55 0 (fun v => v)), (55, mm_ldR 56 0), (56, mm_gfR 59 11 9), (59, mm_ldR 60 0), (60, mm_clV 63 11 0 f_X11_turn), (63, mm_dup2 64), (64, mm_aldJ 65), (65, mm_ldI 66 1), (66, mm_clS 69 1 f_X11_bit), (69, mm_l2 70 (fun a b => a ||| b)), (70, mm_astJ 71), (71, mm_ldR 72 0), (72, mm_gfR 75 11 11), (75, mm_ldR 76 0), (76, mm_gfI 79 11 10), (79, mm_ldI 80 1), (80, mm_ast 81 0 (fun v => v)), (81, mm_ldR 82 0), (82, mm_dup 83), (83, mm_gfI 86 11 10), (86, mm_k 87 (.int 1)), (87, mm_i2 88 (fun a b => a + b)), (88, mm_pfI 91 11 10), (91, mm_ldR 92 0), (92, mm_clV 95 11 0 f_X11_joinedNow), (95, mm_rtI)]
noncomputable def f_X11_move : mm_F := mm_do (mm_pr tb_X11_move) 2
theorem mn_X11_move : mm_alln tb_X11_move := ⟨mm_n_ldR _ _, mm_n_ldR _ _, mm_n_ldI _ _, mm_n_clV _ _ _ (mo_X11_isCell), mm_n_clV _ _ _ (mo_X11_asks), mm_n_ne1 _ _, mm_n_k _ _, mm_n_rtI, mm_n_ldR _ _, mm_n_clV _ _ _ (mo_X11_emptyCells), mm_n_ldI _ _, mm_n_clS _ _ (mo_X11_has), mm_n_ne1 _ _, mm_n_ldR _ _, mm_n_k _ _, mm_n_clV _ _ _ (mo_X11_fails), mm_n_rtI, mm_n_ldR _ _, mm_n_clV _ _ _ (mo_X11_winner), mm_n_k _ _, mm_n_eq2 _ _, mm_n_ldR _ _, mm_n_k _ _, mm_n_clV _ _ _ (mo_X11_fails), mm_n_rtI, mm_n_ldR _ _, mm_n_gfR _ _ _, mm_n_ldR _ _, mm_n_clV _ _ _ (mo_X11_turn), mm_n_k _ _, mm_n_ast _ _ _, mm_n_ldR _ _, mm_n_gfR _ _ _, mm_n_ldR _ _, mm_n_clV _ _ _ (mo_X11_turn), mm_n_dup2 _, mm_n_aldJ _, mm_n_ldI _ _, mm_n_clS _ _ (mo_X11_bit), mm_n_l2 _ _, mm_n_astJ _, mm_n_ldR _ _, mm_n_gfR _ _ _, mm_n_ldR _ _, mm_n_gfI _ _ _, mm_n_ldI _ _, mm_n_ast _ _ _, mm_n_ldR _ _, mm_n_dup _, mm_n_gfI _ _ _, mm_n_k _ _, mm_n_i2 _ _, mm_n_pfI _ _ _, mm_n_ldR _ _, mm_n_clV _ _ _ (mo_X11_joinedNow), mm_n_rtI, trivial⟩
theorem mo_X11_move : mm_Mo f_X11_move := mm_do_mo (mm_alln_mem mn_X11_move)
set_option maxRecDepth 10000 in
theorem ok_X11_move {l : Launch} (hl : l.stackTraces = false) : mm_Ok l yX11_move cX11_move 2 (some .int) 7 164 tb_X11_move := by
  refine ⟨mm_alln_mem mn_X11_move, fun p e cells slots s m args below meth c D tc A S ad Tg X hret hname htab hth => mm_allr_mem ?_⟩
  exact ⟨mm_r_aload_n X (show decode cX11_move 0 = .ok (.aload_n 0, 1) by decide +kernel) rfl,
    mm_r_aload_n X (show decode cX11_move 1 = .ok (.aload_n 0, 1) by decide +kernel) rfl,
    mm_r_iload_n X (show decode cX11_move 2 = .ok (.iload_n 1, 1) by decide +kernel) rfl,
    mm_r_clV X hth (ci := 11) (na := 1) (sn_X11_isCell hl) rfl (show decode cX11_move 3 = .ok (.invokevirtual 168, 3) by decide +kernel) mw_1421 mw_1418 mw_1420 mw_49 mw_105 hd_X11_isCell ⟨(Nat.le_of_ble_eq_true rfl), (Nat.le_of_ble_eq_true rfl)⟩,
    mm_r_clV X hth (ci := 11) (na := 1) (sn_X11_asks hl) rfl (show decode cX11_move 6 = .ok (.invokevirtual 164, 3) by decide +kernel) mw_1413 mw_1410 mw_1412 mw_48 mw_105 hd_X11_asks ⟨(Nat.le_of_ble_eq_true rfl), (Nat.le_of_ble_eq_true rfl)⟩,
    mm_r_ne1 X (show decode cX11_move 9 = .ok (.ifCond .ne 5, 3) by decide +kernel) (by decide),
    mm_r_iconst X (show decode cX11_move 12 = .ok (.iconst 0, 1) by decide +kernel) rfl,
    mm_r_iret X hret (show decode cX11_move 13 = .ok (.ireturn, 1) by decide +kernel),
    mm_r_aload_n X (show decode cX11_move 14 = .ok (.aload_n 0, 1) by decide +kernel) rfl,
    mm_r_clV X hth (ci := 11) (na := 0) (sn_X11_emptyCells hl) rfl (show decode cX11_move 15 = .ok (.invokevirtual 172, 3) by decide +kernel) mw_1425 mw_1422 mw_1424 mw_50 mw_105 hd_X11_emptyCells ⟨(Nat.le_of_ble_eq_true rfl), (Nat.le_of_ble_eq_true rfl)⟩,
    mm_r_iload_n X (show decode cX11_move 18 = .ok (.iload_n 1, 1) by decide +kernel) rfl,
    mm_r_clS X hth (na := 2) (sn_X11_has hl) (show decode cX11_move 19 = .ok (.invokestatic 91, 3) by decide +kernel) mw_1429 mw_1427 mw_1428 mw_105 hd_X11_has.2 ⟨(Nat.le_of_ble_eq_true rfl), (Nat.le_of_ble_eq_true rfl)⟩,
    mm_r_ne1 X (show decode cX11_move 22 = .ok (.ifCond .ne 9, 3) by decide +kernel) (by decide),
    mm_r_aload_n X (show decode cX11_move 25 = .ok (.aload_n 0, 1) by decide +kernel) rfl,
    mm_r_iconst X (show decode cX11_move 26 = .ok (.iconst 2, 1) by decide +kernel) rfl,
    mm_r_clV X hth (ci := 11) (na := 1) (sn_X11_fails hl) rfl (show decode cX11_move 27 = .ok (.invokevirtual 176, 3) by decide +kernel) mw_1433 mw_1430 mw_1432 mw_51 mw_105 hd_X11_fails ⟨(Nat.le_of_ble_eq_true rfl), (Nat.le_of_ble_eq_true rfl)⟩,
    mm_r_iret X hret (show decode cX11_move 30 = .ok (.ireturn, 1) by decide +kernel),
    mm_r_aload_n X (show decode cX11_move 31 = .ok (.aload_n 0, 1) by decide +kernel) rfl,
    mm_r_clV X hth (ci := 11) (na := 0) (sn_X11_winner hl) rfl (show decode cX11_move 32 = .ok (.invokevirtual 180, 3) by decide +kernel) mw_1437 mw_1434 mw_1436 mw_52 mw_105 hd_X11_winner ⟨(Nat.le_of_ble_eq_true rfl), (Nat.le_of_ble_eq_true rfl)⟩,
    mm_r_iconst X (show decode cX11_move 35 = .ok (.iconst (-1), 1) by decide +kernel) rfl,
    mm_r_eq2 X (show decode cX11_move 36 = .ok (.if_icmp .eq 9, 3) by decide +kernel) (by decide),
    mm_r_aload_n X (show decode cX11_move 39 = .ok (.aload_n 0, 1) by decide +kernel) rfl,
    mm_r_iconst X (show decode cX11_move 40 = .ok (.iconst 3, 1) by decide +kernel) rfl,
    mm_r_clV X hth (ci := 11) (na := 1) (sn_X11_fails hl) rfl (show decode cX11_move 41 = .ok (.invokevirtual 176, 3) by decide +kernel) mw_1433 mw_1430 mw_1432 mw_51 mw_105 hd_X11_fails ⟨(Nat.le_of_ble_eq_true rfl), (Nat.le_of_ble_eq_true rfl)⟩,
    mm_r_iret X hret (show decode cX11_move 44 = .ok (.ireturn, 1) by decide +kernel),
    mm_r_aload_n X (show decode cX11_move 45 = .ok (.aload_n 0, 1) by decide +kernel) rfl,
    mm_r_gfR X (ci := 11) (p := 19) (show mm_kd 11 19 = 2 by decide +kernel) rfl (Nat.le_of_ble_eq_true rfl) (show decode cX11_move 46 = .ok (.getfield 38, 3) by decide +kernel) mw_1300 rfl,
    mm_r_aload_n X (show decode cX11_move 49 = .ok (.aload_n 0, 1) by decide +kernel) rfl,
    mm_r_clV X hth (ci := 11) (na := 0) (sn_X11_turn hl) rfl (show decode cX11_move 50 = .ok (.invokevirtual 183, 3) by decide +kernel) mw_1457 mw_1454 mw_1456 mw_57 mw_105 hd_X11_turn ⟨(Nat.le_of_ble_eq_true rfl), (Nat.le_of_ble_eq_true rfl)⟩,
    mm_r_iconst X (show decode cX11_move 53 = .ok (.iconst 0, 1) by decide +kernel) rfl,
    mm_r_iast X (show decode cX11_move 54 = .ok (.iastore, 1) by decide +kernel),
    mm_r_aload_n X (show decode cX11_move 55 = .ok (.aload_n 0, 1) by decide +kernel) rfl,
    mm_r_gfR X (ci := 11) (p := 9) (show mm_kd 11 9 = 2 by decide +kernel) rfl (Nat.le_of_ble_eq_true rfl) (show decode cX11_move 56 = .ok (.getfield 26, 3) by decide +kernel) mw_1290 rfl,
    mm_r_aload_n X (show decode cX11_move 59 = .ok (.aload_n 0, 1) by decide +kernel) rfl,
    mm_r_clV X hth (ci := 11) (na := 0) (sn_X11_turn hl) rfl (show decode cX11_move 60 = .ok (.invokevirtual 183, 3) by decide +kernel) mw_1457 mw_1454 mw_1456 mw_57 mw_105 hd_X11_turn ⟨(Nat.le_of_ble_eq_true rfl), (Nat.le_of_ble_eq_true rfl)⟩,
    mm_r_dup2 X (show decode cX11_move 63 = .ok (.dup2, 1) by decide +kernel),
    mm_r_lald X (show decode cX11_move 64 = .ok (.laload, 1) by decide +kernel),
    mm_r_iload_n X (show decode cX11_move 65 = .ok (.iload_n 1, 1) by decide +kernel) rfl,
    mm_r_clS X hth (na := 1) (sn_X11_bit hl) (show decode cX11_move 66 = .ok (.invokestatic 119, 3) by decide +kernel) mw_1272 mw_1270 mw_1271 mw_105 hd_X11_bit.2 ⟨(Nat.le_of_ble_eq_true rfl), (Nat.le_of_ble_eq_true rfl)⟩,
    mm_r_lor X (show decode cX11_move 69 = .ok (.lor, 1) by decide +kernel),
    mm_r_last X (show decode cX11_move 70 = .ok (.lastore, 1) by decide +kernel),
    mm_r_aload_n X (show decode cX11_move 71 = .ok (.aload_n 0, 1) by decide +kernel) rfl,
    mm_r_gfR X (ci := 11) (p := 11) (show mm_kd 11 11 = 2 by decide +kernel) rfl (Nat.le_of_ble_eq_true rfl) (show decode cX11_move 72 = .ok (.getfield 29, 3) by decide +kernel) mw_1292 rfl,
    mm_r_aload_n X (show decode cX11_move 75 = .ok (.aload_n 0, 1) by decide +kernel) rfl,
    mm_r_gfI X (ci := 11) (p := 10) (show mm_kd 11 10 = 0 by decide +kernel) rfl (Nat.le_of_ble_eq_true rfl) (show decode cX11_move 76 = .ok (.getfield 131, 3) by decide +kernel) mw_1291 rfl,
    mm_r_iload_n X (show decode cX11_move 79 = .ok (.iload_n 1, 1) by decide +kernel) rfl,
    mm_r_iast X (show decode cX11_move 80 = .ok (.iastore, 1) by decide +kernel),
    mm_r_aload_n X (show decode cX11_move 81 = .ok (.aload_n 0, 1) by decide +kernel) rfl,
    mm_r_dup X (show decode cX11_move 82 = .ok (.dup, 1) by decide +kernel),
    mm_r_gfI X (ci := 11) (p := 10) (show mm_kd 11 10 = 0 by decide +kernel) rfl (Nat.le_of_ble_eq_true rfl) (show decode cX11_move 83 = .ok (.getfield 131, 3) by decide +kernel) mw_1291 rfl,
    mm_r_iconst X (show decode cX11_move 86 = .ok (.iconst 1, 1) by decide +kernel) rfl,
    mm_r_iadd X (show decode cX11_move 87 = .ok (.iadd, 1) by decide +kernel),
    mm_r_pfI X (ci := 11) (p := 10) (show mm_kd 11 10 = 0 by decide +kernel) rfl rfl (Nat.le_of_ble_eq_true rfl) (show decode cX11_move 88 = .ok (.putfield 131, 3) by decide +kernel) mw_1291 rfl rfl,
    mm_r_aload_n X (show decode cX11_move 91 = .ok (.aload_n 0, 1) by decide +kernel) rfl,
    mm_r_clV X hth (ci := 11) (na := 0) (sn_X11_joinedNow hl) rfl (show decode cX11_move 92 = .ok (.invokevirtual 161, 3) by decide +kernel) mw_1441 mw_1438 mw_1440 mw_53 mw_105 hd_X11_joinedNow ⟨(Nat.le_of_ble_eq_true rfl), (Nat.le_of_ble_eq_true rfl)⟩,
    mm_r_iret X hret (show decode cX11_move 95 = .ok (.ireturn, 1) by decide +kernel), trivial⟩
theorem sn_X11_move {l : Launch} (hl : l.stackTraces = false) : mm_Snd l yX11_move (.code yX11_move cX11_move 2 (some .int)) 7 164 f_X11_move := mm_met hl (plainFor_of_name (by decide +kernel)) (ok_X11_move hl)
/-! LinkcourtModel.mirrored(I)I -/
noncomputable def tb_X11_mirrored : List (Nat × mm_I) := [(0, mm_ldR 1 0), (1, mm_gfI 4 11 0), (4, mm_ne1 39 7), (7, mm_ldR 8 0), (8, mm_gfI 11 11 1), (11, mm_ldR 12 0), (12, mm_gfI 15 11 2), (15, mm_ne2 39 18), (18, mm_ldR 19 0), (19, mm_gfR 22 11 5), (22, mm_ldI 23 1), (23, mm_ald 24 0), (24, mm_ldR 25 0), (25, mm_gfI 28 11 2), (28, mm_i2 29 (fun a b => a * b)), (29, mm_ldR 30 0), (30, mm_gfR 33 11 4), (33, mm_ldI 34 1), (34, mm_ald 35 0), (35, mm_i2 36 (fun a b => a + b)), (36, mm_go 40), (39, mm_ldI 40 1), (40, mm_rtI)]
noncomputable def f_X11_mirrored : mm_F := mm_do (mm_pr tb_X11_mirrored) 2
theorem mn_X11_mirrored : mm_alln tb_X11_mirrored := ⟨mm_n_ldR _ _, mm_n_gfI _ _ _, mm_n_ne1 _ _, mm_n_ldR _ _, mm_n_gfI _ _ _, mm_n_ldR _ _, mm_n_gfI _ _ _, mm_n_ne2 _ _, mm_n_ldR _ _, mm_n_gfR _ _ _, mm_n_ldI _ _, mm_n_ald _ _, mm_n_ldR _ _, mm_n_gfI _ _ _, mm_n_i2 _ _, mm_n_ldR _ _, mm_n_gfR _ _ _, mm_n_ldI _ _, mm_n_ald _ _, mm_n_i2 _ _, mm_n_go _, mm_n_ldI _ _, mm_n_rtI, trivial⟩
theorem mo_X11_mirrored : mm_Mo f_X11_mirrored := mm_do_mo (mm_alln_mem mn_X11_mirrored)
set_option maxRecDepth 10000 in
theorem ok_X11_mirrored {l : Launch} (hl : l.stackTraces = false) : mm_Ok l yX11_mirrored cX11_mirrored 2 (some .int) 1 20 tb_X11_mirrored := by
  refine ⟨mm_alln_mem mn_X11_mirrored, fun p e cells slots s m args below meth c D tc A S ad Tg X hret hname htab hth => mm_allr_mem ?_⟩
  exact ⟨mm_r_aload_n X (show decode cX11_mirrored 0 = .ok (.aload_n 0, 1) by decide +kernel) rfl,
    mm_r_gfI X (ci := 11) (p := 0) (show mm_kd 11 0 = 0 by decide +kernel) rfl (Nat.le_of_ble_eq_true rfl) (show decode cX11_mirrored 1 = .ok (.getfield 105, 3) by decide +kernel) mw_1281 rfl,
    mm_r_ne1 X (show decode cX11_mirrored 4 = .ok (.ifCond .ne 35, 3) by decide +kernel) (by decide),
    mm_r_aload_n X (show decode cX11_mirrored 7 = .ok (.aload_n 0, 1) by decide +kernel) rfl,
    mm_r_gfI X (ci := 11) (p := 1) (show mm_kd 11 1 = 0 by decide +kernel) rfl (Nat.le_of_ble_eq_true rfl) (show decode cX11_mirrored 8 = .ok (.getfield 102, 3) by decide +kernel) mw_1282 rfl,
    mm_r_aload_n X (show decode cX11_mirrored 11 = .ok (.aload_n 0, 1) by decide +kernel) rfl,
    mm_r_gfI X (ci := 11) (p := 2) (show mm_kd 11 2 = 0 by decide +kernel) rfl (Nat.le_of_ble_eq_true rfl) (show decode cX11_mirrored 12 = .ok (.getfield 108, 3) by decide +kernel) mw_1283 rfl,
    mm_r_ne2 X (show decode cX11_mirrored 15 = .ok (.if_icmp .ne 24, 3) by decide +kernel) (by decide),
    mm_r_aload_n X (show decode cX11_mirrored 18 = .ok (.aload_n 0, 1) by decide +kernel) rfl,
    mm_r_gfR X (ci := 11) (p := 5) (show mm_kd 11 5 = 2 by decide +kernel) rfl (Nat.le_of_ble_eq_true rfl) (show decode cX11_mirrored 19 = .ok (.getfield 13, 3) by decide +kernel) mw_1286 rfl,
    mm_r_iload_n X (show decode cX11_mirrored 22 = .ok (.iload_n 1, 1) by decide +kernel) rfl,
    mm_r_iald X (show decode cX11_mirrored 23 = .ok (.iaload, 1) by decide +kernel),
    mm_r_aload_n X (show decode cX11_mirrored 24 = .ok (.aload_n 0, 1) by decide +kernel) rfl,
    mm_r_gfI X (ci := 11) (p := 2) (show mm_kd 11 2 = 0 by decide +kernel) rfl (Nat.le_of_ble_eq_true rfl) (show decode cX11_mirrored 25 = .ok (.getfield 108, 3) by decide +kernel) mw_1283 rfl,
    mm_r_imul X (show decode cX11_mirrored 28 = .ok (.imul, 1) by decide +kernel),
    mm_r_aload_n X (show decode cX11_mirrored 29 = .ok (.aload_n 0, 1) by decide +kernel) rfl,
    mm_r_gfR X (ci := 11) (p := 4) (show mm_kd 11 4 = 2 by decide +kernel) rfl (Nat.le_of_ble_eq_true rfl) (show decode cX11_mirrored 30 = .ok (.getfield 7, 3) by decide +kernel) mw_1285 rfl,
    mm_r_iload_n X (show decode cX11_mirrored 33 = .ok (.iload_n 1, 1) by decide +kernel) rfl,
    mm_r_iald X (show decode cX11_mirrored 34 = .ok (.iaload, 1) by decide +kernel),
    mm_r_iadd X (show decode cX11_mirrored 35 = .ok (.iadd, 1) by decide +kernel),
    mm_r_goto X (show decode cX11_mirrored 36 = .ok (.goto 4, 3) by decide +kernel) (by decide),
    mm_r_iload_n X (show decode cX11_mirrored 39 = .ok (.iload_n 1, 1) by decide +kernel) rfl,
    mm_r_iret X hret (show decode cX11_mirrored 40 = .ok (.ireturn, 1) by decide +kernel), trivial⟩
theorem sn_X11_mirrored {l : Launch} (hl : l.stackTraces = false) : mm_Snd l yX11_mirrored (.code yX11_mirrored cX11_mirrored 2 (some .int)) 1 20 f_X11_mirrored := mm_met hl (plainFor_of_name (by decide +kernel)) (ok_X11_mirrored hl)
/-! LinkcourtModel.swap()I -/
noncomputable def tb_X11_swap : List (Nat × mm_I) := [(0, mm_ldR 1 0), (1, mm_ldR 2 0), (2, mm_gfI 5 11 10), (5, mm_k 6 (.int 1)), (6, mm_ne2 21 9), (9, mm_ldR 10 0), (10, mm_clV 13 11 0 f_X11_winner), (13, mm_k 14 (.int (-1))), (14, mm_ne2 21 17), (17, mm_k 18 (.int 1)), (18, mm_go 22), (21, mm_k 22 (.int 0)), (22, mm_clV 25 11 1 f_X11_asks), (25, mm_ne1 30 28), (28, mm_k 29 (.int 0)), (29, mm_rtI), (30, mm_ldR 31 0), (31, mm_gfR 34 11 19), (34, mm_k 35 (.int 1)), (35, mm_k 36 (.int 0)), (36, mm_ast 37 0 (fun v => v)), (37, mm_ldR 38 0), (38, mm_gfR 41 11 9), (41, mm_k 42 (.int 0)), (42, mm_k 43 (.long 0)), (43, mm_astJ 44), (44, mm_ldR 45 0), (45, mm_gfR 48 11 9), (48, mm_k 49 (.int 1)), (49, mm_ldR 50 0), (50, mm_ldR 51 0), (51, mm_gfR 54 11 11), (54, mm_k 55 (.int 0)), (55, mm_ald 56 0), (56, mm_clV 59 11 1 f_X11_mirrored), (59, mm_clS 62 1 f_X11_bit), (62, mm_astJ 63), (63, mm_ldR 64 0), (64, mm_gfR 67 11 11), (67, mm_k 68 (.int 1)), (68, mm_ldR 69 0), (69, mm_ldR 70 0), (70, mm_gfR 73 11 11), (73, mm_k 74 (.int 0)), (74, mm_ald 75 0), (75, mm_clV 78 11 1 f_X11_mirrored), (78, mm_ast 79 0 (fun v => v)), (79, mm_ldR 80 0), (80, mm_k 81 (.int 1)), (81, mm_pfZ 84 11 12), (84, mm_ldR 85 0), (85, mm_k 86 (.int 2)), (86, mm_pfI 89 11 10), (89, mm_ldR 90 0), (90, mm_gfR 93 11 11), (93, mm_k 94 (.int 1)), (94, mm_ald 95 0), (95, mm_rtI)]
noncomputable def f_X11_swap : mm_F := mm_do (mm_pr tb_X11_swap) 1
theorem mn_X11_swap : mm_alln tb_X11_swap := ⟨mm_n_ldR _ _, mm_n_ldR _ _, mm_n_gfI _ _ _, mm_n_k _ _, mm_n_ne2 _ _, mm_n_ldR _ _, mm_n_clV _ _ _ (mo_X11_winner), mm_n_k _ _, mm_n_ne2 _ _, mm_n_k _ _, mm_n_go _, mm_n_k _ _, mm_n_clV _ _ _ (mo_X11_asks), mm_n_ne1 _ _, mm_n_k _ _, mm_n_rtI, mm_n_ldR _ _, mm_n_gfR _ _ _, mm_n_k _ _, mm_n_k _ _, mm_n_ast _ _ _, mm_n_ldR _ _, mm_n_gfR _ _ _, mm_n_k _ _, mm_n_k _ _, mm_n_astJ _, mm_n_ldR _ _, mm_n_gfR _ _ _, mm_n_k _ _, mm_n_ldR _ _, mm_n_ldR _ _, mm_n_gfR _ _ _, mm_n_k _ _, mm_n_ald _ _, mm_n_clV _ _ _ (mo_X11_mirrored), mm_n_clS _ _ (mo_X11_bit), mm_n_astJ _, mm_n_ldR _ _, mm_n_gfR _ _ _, mm_n_k _ _, mm_n_ldR _ _, mm_n_ldR _ _, mm_n_gfR _ _ _, mm_n_k _ _, mm_n_ald _ _, mm_n_clV _ _ _ (mo_X11_mirrored), mm_n_ast _ _ _, mm_n_ldR _ _, mm_n_k _ _, mm_n_pfZ _ _ _, mm_n_ldR _ _, mm_n_k _ _, mm_n_pfI _ _ _, mm_n_ldR _ _, mm_n_gfR _ _ _, mm_n_k _ _, mm_n_ald _ _, mm_n_rtI, trivial⟩
theorem mo_X11_swap : mm_Mo f_X11_swap := mm_do_mo (mm_alln_mem mn_X11_swap)
set_option maxRecDepth 10000 in
theorem ok_X11_swap {l : Launch} (hl : l.stackTraces = false) : mm_Ok l yX11_swap cX11_swap 1 (some .int) 7 164 tb_X11_swap := by
  refine ⟨mm_alln_mem mn_X11_swap, fun p e cells slots s m args below meth c D tc A S ad Tg X hret hname htab hth => mm_allr_mem ?_⟩
  exact ⟨mm_r_aload_n X (show decode cX11_swap 0 = .ok (.aload_n 0, 1) by decide +kernel) rfl,
    mm_r_aload_n X (show decode cX11_swap 1 = .ok (.aload_n 0, 1) by decide +kernel) rfl,
    mm_r_gfI X (ci := 11) (p := 10) (show mm_kd 11 10 = 0 by decide +kernel) rfl (Nat.le_of_ble_eq_true rfl) (show decode cX11_swap 2 = .ok (.getfield 131, 3) by decide +kernel) mw_1291 rfl,
    mm_r_iconst X (show decode cX11_swap 5 = .ok (.iconst 1, 1) by decide +kernel) rfl,
    mm_r_ne2 X (show decode cX11_swap 6 = .ok (.if_icmp .ne 15, 3) by decide +kernel) (by decide),
    mm_r_aload_n X (show decode cX11_swap 9 = .ok (.aload_n 0, 1) by decide +kernel) rfl,
    mm_r_clV X hth (ci := 11) (na := 0) (sn_X11_winner hl) rfl (show decode cX11_swap 10 = .ok (.invokevirtual 180, 3) by decide +kernel) mw_1437 mw_1434 mw_1436 mw_52 mw_105 hd_X11_winner ⟨(Nat.le_of_ble_eq_true rfl), (Nat.le_of_ble_eq_true rfl)⟩,
    mm_r_iconst X (show decode cX11_swap 13 = .ok (.iconst (-1), 1) by decide +kernel) rfl,
    mm_r_ne2 X (show decode cX11_swap 14 = .ok (.if_icmp .ne 7, 3) by decide +kernel) (by decide),
    mm_r_iconst X (show decode cX11_swap 17 = .ok (.iconst 1, 1) by decide +kernel) rfl,
    mm_r_goto X (show decode cX11_swap 18 = .ok (.goto 4, 3) by decide +kernel) (by decide),
    mm_r_iconst X (show decode cX11_swap 21 = .ok (.iconst 0, 1) by decide +kernel) rfl,
    mm_r_clV X hth (ci := 11) (na := 1) (sn_X11_asks hl) rfl (show decode cX11_swap 22 = .ok (.invokevirtual 164, 3) by decide +kernel) mw_1413 mw_1410 mw_1412 mw_48 mw_105 hd_X11_asks ⟨(Nat.le_of_ble_eq_true rfl), (Nat.le_of_ble_eq_true rfl)⟩,
    mm_r_ne1 X (show decode cX11_swap 25 = .ok (.ifCond .ne 5, 3) by decide +kernel) (by decide),
    mm_r_iconst X (show decode cX11_swap 28 = .ok (.iconst 0, 1) by decide +kernel) rfl,
    mm_r_iret X hret (show decode cX11_swap 29 = .ok (.ireturn, 1) by decide +kernel),
    mm_r_aload_n X (show decode cX11_swap 30 = .ok (.aload_n 0, 1) by decide +kernel) rfl,
    mm_r_gfR X (ci := 11) (p := 19) (show mm_kd 11 19 = 2 by decide +kernel) rfl (Nat.le_of_ble_eq_true rfl) (show decode cX11_swap 31 = .ok (.getfield 38, 3) by decide +kernel) mw_1300 rfl,
    mm_r_iconst X (show decode cX11_swap 34 = .ok (.iconst 1, 1) by decide +kernel) rfl,
    mm_r_iconst X (show decode cX11_swap 35 = .ok (.iconst 0, 1) by decide +kernel) rfl,
    mm_r_iast X (show decode cX11_swap 36 = .ok (.iastore, 1) by decide +kernel),
    mm_r_aload_n X (show decode cX11_swap 37 = .ok (.aload_n 0, 1) by decide +kernel) rfl,
    mm_r_gfR X (ci := 11) (p := 9) (show mm_kd 11 9 = 2 by decide +kernel) rfl (Nat.le_of_ble_eq_true rfl) (show decode cX11_swap 38 = .ok (.getfield 26, 3) by decide +kernel) mw_1290 rfl,
    mm_r_iconst X (show decode cX11_swap 41 = .ok (.iconst 0, 1) by decide +kernel) rfl,
    mm_r_lconst X (show decode cX11_swap 42 = .ok (.lconst 0, 1) by decide +kernel) rfl,
    mm_r_last X (show decode cX11_swap 43 = .ok (.lastore, 1) by decide +kernel),
    mm_r_aload_n X (show decode cX11_swap 44 = .ok (.aload_n 0, 1) by decide +kernel) rfl,
    mm_r_gfR X (ci := 11) (p := 9) (show mm_kd 11 9 = 2 by decide +kernel) rfl (Nat.le_of_ble_eq_true rfl) (show decode cX11_swap 45 = .ok (.getfield 26, 3) by decide +kernel) mw_1290 rfl,
    mm_r_iconst X (show decode cX11_swap 48 = .ok (.iconst 1, 1) by decide +kernel) rfl,
    mm_r_aload_n X (show decode cX11_swap 49 = .ok (.aload_n 0, 1) by decide +kernel) rfl,
    mm_r_aload_n X (show decode cX11_swap 50 = .ok (.aload_n 0, 1) by decide +kernel) rfl,
    mm_r_gfR X (ci := 11) (p := 11) (show mm_kd 11 11 = 2 by decide +kernel) rfl (Nat.le_of_ble_eq_true rfl) (show decode cX11_swap 51 = .ok (.getfield 29, 3) by decide +kernel) mw_1292 rfl,
    mm_r_iconst X (show decode cX11_swap 54 = .ok (.iconst 0, 1) by decide +kernel) rfl,
    mm_r_iald X (show decode cX11_swap 55 = .ok (.iaload, 1) by decide +kernel),
    mm_r_clV X hth (ci := 11) (na := 1) (sn_X11_mirrored hl) rfl (show decode cX11_swap 56 = .ok (.invokevirtual 186, 3) by decide +kernel) mw_1465 mw_1462 mw_1464 mw_58 mw_105 hd_X11_mirrored ⟨(Nat.le_of_ble_eq_true rfl), (Nat.le_of_ble_eq_true rfl)⟩,
    mm_r_clS X hth (na := 1) (sn_X11_bit hl) (show decode cX11_swap 59 = .ok (.invokestatic 119, 3) by decide +kernel) mw_1272 mw_1270 mw_1271 mw_105 hd_X11_bit.2 ⟨(Nat.le_of_ble_eq_true rfl), (Nat.le_of_ble_eq_true rfl)⟩,
    mm_r_last X (show decode cX11_swap 62 = .ok (.lastore, 1) by decide +kernel),
    mm_r_aload_n X (show decode cX11_swap 63 = .ok (.aload_n 0, 1) by decide +kernel) rfl,
    mm_r_gfR X (ci := 11) (p := 11) (show mm_kd 11 11 = 2 by decide +kernel) rfl (Nat.le_of_ble_eq_true rfl) (show decode cX11_swap 64 = .ok (.getfield 29, 3) by decide +kernel) mw_1292 rfl,
    mm_r_iconst X (show decode cX11_swap 67 = .ok (.iconst 1, 1) by decide +kernel) rfl,
    mm_r_aload_n X (show decode cX11_swap 68 = .ok (.aload_n 0, 1) by decide +kernel) rfl,
    mm_r_aload_n X (show decode cX11_swap 69 = .ok (.aload_n 0, 1) by decide +kernel) rfl,
    mm_r_gfR X (ci := 11) (p := 11) (show mm_kd 11 11 = 2 by decide +kernel) rfl (Nat.le_of_ble_eq_true rfl) (show decode cX11_swap 70 = .ok (.getfield 29, 3) by decide +kernel) mw_1292 rfl,
    mm_r_iconst X (show decode cX11_swap 73 = .ok (.iconst 0, 1) by decide +kernel) rfl,
    mm_r_iald X (show decode cX11_swap 74 = .ok (.iaload, 1) by decide +kernel),
    mm_r_clV X hth (ci := 11) (na := 1) (sn_X11_mirrored hl) rfl (show decode cX11_swap 75 = .ok (.invokevirtual 186, 3) by decide +kernel) mw_1465 mw_1462 mw_1464 mw_58 mw_105 hd_X11_mirrored ⟨(Nat.le_of_ble_eq_true rfl), (Nat.le_of_ble_eq_true rfl)⟩,
    mm_r_iast X (show decode cX11_swap 78 = .ok (.iastore, 1) by decide +kernel),
    mm_r_aload_n X (show decode cX11_swap 79 = .ok (.aload_n 0, 1) by decide +kernel) rfl,
    mm_r_iconst X (show decode cX11_swap 80 = .ok (.iconst 1, 1) by decide +kernel) rfl,
    mm_r_pfZ X (ci := 11) (p := 12) (show mm_kd 11 12 = 0 by decide +kernel) rfl rfl (Nat.le_of_ble_eq_true rfl) (show decode cX11_swap 81 = .ok (.putfield 134, 3) by decide +kernel) mw_1293 rfl rfl,
    mm_r_aload_n X (show decode cX11_swap 84 = .ok (.aload_n 0, 1) by decide +kernel) rfl,
    mm_r_iconst X (show decode cX11_swap 85 = .ok (.iconst 2, 1) by decide +kernel) rfl,
    mm_r_pfI X (ci := 11) (p := 10) (show mm_kd 11 10 = 0 by decide +kernel) rfl rfl (Nat.le_of_ble_eq_true rfl) (show decode cX11_swap 86 = .ok (.putfield 131, 3) by decide +kernel) mw_1291 rfl rfl,
    mm_r_aload_n X (show decode cX11_swap 89 = .ok (.aload_n 0, 1) by decide +kernel) rfl,
    mm_r_gfR X (ci := 11) (p := 11) (show mm_kd 11 11 = 2 by decide +kernel) rfl (Nat.le_of_ble_eq_true rfl) (show decode cX11_swap 90 = .ok (.getfield 29, 3) by decide +kernel) mw_1292 rfl,
    mm_r_iconst X (show decode cX11_swap 93 = .ok (.iconst 1, 1) by decide +kernel) rfl,
    mm_r_iald X (show decode cX11_swap 94 = .ok (.iaload, 1) by decide +kernel),
    mm_r_iret X hret (show decode cX11_swap 95 = .ok (.ireturn, 1) by decide +kernel), trivial⟩
theorem sn_X11_swap {l : Launch} (hl : l.stackTraces = false) : mm_Snd l yX11_swap (.code yX11_swap cX11_swap 1 (some .int)) 7 164 f_X11_swap := mm_met hl (plainFor_of_name (by decide +kernel)) (ok_X11_swap hl)
/-! LinkcourtModel.undo()I -/
noncomputable def tb_X11_undo : List (Nat × mm_I) := [(0, mm_ldR 1 0), (1, mm_ldR 2 0), (2, mm_gfI 5 11 10), (5, mm_le1 27 8), (8, mm_ldR 9 0), (9, mm_gfI 12 11 13), (12, mm_k 13 (.int (-1))), (13, mm_ne2 27 16), (16, mm_ldR 17 0), (17, mm_gfI 20 11 14), (20, mm_ne1 27 23), (23, mm_k 24 (.int 1)), (24, mm_go 28), (27, mm_k 28 (.int 0)), (28, mm_clV 31 11 1 f_X11_asks), (31, mm_ne1 36 34), (34, mm_k 35 (.int 0)), (35, mm_rtI), (36, mm_ldR 37 0), (37, mm_dup 38), (38, mm_gfI 41 11 10), (41, mm_k 42 (.int 1)), (42, mm_i2 43 (fun a b => a - b)), (43, mm_pfI 46 11 10), (46, mm_ldR 47 0), (47, mm_gfI 50 11 10), (50, mm_k 51 (.int 1)), (51, mm_ne2 91 54), (54, mm_ldR 55 0), (55, mm_gfI 58 11 12), (58, mm_eq1 91 61), (61, mm_ldR 62 0), (62, mm_k 63 (.int 0)), (63, mm_pfZ 66 11 12), (66, mm_ldR 67 0), (67, mm_gfR 70 11 9), (70, mm_k 71 (.int 0)), (71, mm_ldR 72 0), (72, mm_gfR 75 11 11), (75, mm_k 76 (.int 0)), (76, mm_ald 77 0), (77, mm_clS 80 1 f_X11_bit), (80, mm_astJ 81), (81, mm_ldR 82 0), (82, mm_gfR 85 11 9), (85, mm_k 86 (.int 1)), (86, mm_k 87 (.long 0)), (87, mm_astJ 88), (88, mm_go 119), (91, mm_ldR 92 0), (92, mm_gfR 95 11 9), (95, mm_ldR 96 0), (96, mm_clV 99 11 0 f_X11_turn), (99, mm_dup2 100), (100, mm_aldJ 101), (101, mm_ldR 102 0), (102, mm_gfR 105 11 11), (105, mm_ldR 106 0), (106, mm_gfI 109 11 10), (109, mm_ald 110 0), (110, mm_clS 113 1 f_X11_bit), (113, mm_k 116 (.long (-1))), (116, mm_l2 117 (fun a b => a ^^^ b)), (117, mm_l2 118 (fun a b => a &&& b)), (118, mm_astJ 119), (119, mm_ldR 120 0), (120, mm_gfI 123 11 10), (123, mm_rtI)]
noncomputable def f_X11_undo : mm_F := mm_do (mm_pr tb_X11_undo) 1
theorem mn_X11_undo : mm_alln tb_X11_undo := ⟨mm_n_ldR _ _, mm_n_ldR _ _, mm_n_gfI _ _ _, mm_n_le1 _ _, mm_n_ldR _ _, mm_n_gfI _ _ _, mm_n_k _ _, mm_n_ne2 _ _, mm_n_ldR _ _, mm_n_gfI _ _ _, mm_n_ne1 _ _, mm_n_k _ _, mm_n_go _, mm_n_k _ _, mm_n_clV _ _ _ (mo_X11_asks), mm_n_ne1 _ _, mm_n_k _ _, mm_n_rtI, mm_n_ldR _ _, mm_n_dup _, mm_n_gfI _ _ _, mm_n_k _ _, mm_n_i2 _ _, mm_n_pfI _ _ _, mm_n_ldR _ _, mm_n_gfI _ _ _, mm_n_k _ _, mm_n_ne2 _ _, mm_n_ldR _ _, mm_n_gfI _ _ _, mm_n_eq1 _ _, mm_n_ldR _ _, mm_n_k _ _, mm_n_pfZ _ _ _, mm_n_ldR _ _, mm_n_gfR _ _ _, mm_n_k _ _, mm_n_ldR _ _, mm_n_gfR _ _ _, mm_n_k _ _, mm_n_ald _ _, mm_n_clS _ _ (mo_X11_bit), mm_n_astJ _, mm_n_ldR _ _, mm_n_gfR _ _ _, mm_n_k _ _, mm_n_k _ _, mm_n_astJ _, mm_n_go _, mm_n_ldR _ _, mm_n_gfR _ _ _, mm_n_ldR _ _, mm_n_clV _ _ _ (mo_X11_turn), mm_n_dup2 _, mm_n_aldJ _, mm_n_ldR _ _, mm_n_gfR _ _ _, mm_n_ldR _ _, mm_n_gfI _ _ _, mm_n_ald _ _, mm_n_clS _ _ (mo_X11_bit), mm_n_k _ _, mm_n_l2 _ _, mm_n_l2 _ _, mm_n_astJ _, mm_n_ldR _ _, mm_n_gfI _ _ _, mm_n_rtI, trivial⟩
theorem mo_X11_undo : mm_Mo f_X11_undo := mm_do_mo (mm_alln_mem mn_X11_undo)
set_option maxRecDepth 10000 in
theorem ok_X11_undo {l : Launch} (hl : l.stackTraces = false) : mm_Ok l yX11_undo cX11_undo 1 (some .int) 2 41 tb_X11_undo := by
  refine ⟨mm_alln_mem mn_X11_undo, fun p e cells slots s m args below meth c D tc A S ad Tg X hret hname htab hth => mm_allr_mem ?_⟩
  exact ⟨mm_r_aload_n X (show decode cX11_undo 0 = .ok (.aload_n 0, 1) by decide +kernel) rfl,
    mm_r_aload_n X (show decode cX11_undo 1 = .ok (.aload_n 0, 1) by decide +kernel) rfl,
    mm_r_gfI X (ci := 11) (p := 10) (show mm_kd 11 10 = 0 by decide +kernel) rfl (Nat.le_of_ble_eq_true rfl) (show decode cX11_undo 2 = .ok (.getfield 131, 3) by decide +kernel) mw_1291 rfl,
    mm_r_le1 X (show decode cX11_undo 5 = .ok (.ifCond .le 22, 3) by decide +kernel) (by decide),
    mm_r_aload_n X (show decode cX11_undo 8 = .ok (.aload_n 0, 1) by decide +kernel) rfl,
    mm_r_gfI X (ci := 11) (p := 13) (show mm_kd 11 13 = 0 by decide +kernel) rfl (Nat.le_of_ble_eq_true rfl) (show decode cX11_undo 9 = .ok (.getfield 138, 3) by decide +kernel) mw_1294 rfl,
    mm_r_iconst X (show decode cX11_undo 12 = .ok (.iconst (-1), 1) by decide +kernel) rfl,
    mm_r_ne2 X (show decode cX11_undo 13 = .ok (.if_icmp .ne 14, 3) by decide +kernel) (by decide),
    mm_r_aload_n X (show decode cX11_undo 16 = .ok (.aload_n 0, 1) by decide +kernel) rfl,
    mm_r_gfI X (ci := 11) (p := 14) (show mm_kd 11 14 = 0 by decide +kernel) rfl (Nat.le_of_ble_eq_true rfl) (show decode cX11_undo 17 = .ok (.getfield 141, 3) by decide +kernel) mw_1295 rfl,
    mm_r_ne1 X (show decode cX11_undo 20 = .ok (.ifCond .ne 7, 3) by decide +kernel) (by decide),
    mm_r_iconst X (show decode cX11_undo 23 = .ok (.iconst 1, 1) by decide +kernel) rfl,
    mm_r_goto X (show decode cX11_undo 24 = .ok (.goto 4, 3) by decide +kernel) (by decide),
    mm_r_iconst X (show decode cX11_undo 27 = .ok (.iconst 0, 1) by decide +kernel) rfl,
    mm_r_clV X hth (ci := 11) (na := 1) (sn_X11_asks hl) rfl (show decode cX11_undo 28 = .ok (.invokevirtual 164, 3) by decide +kernel) mw_1413 mw_1410 mw_1412 mw_48 mw_105 hd_X11_asks ⟨(Nat.le_of_ble_eq_true rfl), (Nat.le_of_ble_eq_true rfl)⟩,
    mm_r_ne1 X (show decode cX11_undo 31 = .ok (.ifCond .ne 5, 3) by decide +kernel) (by decide),
    mm_r_iconst X (show decode cX11_undo 34 = .ok (.iconst 0, 1) by decide +kernel) rfl,
    mm_r_iret X hret (show decode cX11_undo 35 = .ok (.ireturn, 1) by decide +kernel),
    mm_r_aload_n X (show decode cX11_undo 36 = .ok (.aload_n 0, 1) by decide +kernel) rfl,
    mm_r_dup X (show decode cX11_undo 37 = .ok (.dup, 1) by decide +kernel),
    mm_r_gfI X (ci := 11) (p := 10) (show mm_kd 11 10 = 0 by decide +kernel) rfl (Nat.le_of_ble_eq_true rfl) (show decode cX11_undo 38 = .ok (.getfield 131, 3) by decide +kernel) mw_1291 rfl,
    mm_r_iconst X (show decode cX11_undo 41 = .ok (.iconst 1, 1) by decide +kernel) rfl,
    mm_r_isub X (show decode cX11_undo 42 = .ok (.isub, 1) by decide +kernel),
    mm_r_pfI X (ci := 11) (p := 10) (show mm_kd 11 10 = 0 by decide +kernel) rfl rfl (Nat.le_of_ble_eq_true rfl) (show decode cX11_undo 43 = .ok (.putfield 131, 3) by decide +kernel) mw_1291 rfl rfl,
    mm_r_aload_n X (show decode cX11_undo 46 = .ok (.aload_n 0, 1) by decide +kernel) rfl,
    mm_r_gfI X (ci := 11) (p := 10) (show mm_kd 11 10 = 0 by decide +kernel) rfl (Nat.le_of_ble_eq_true rfl) (show decode cX11_undo 47 = .ok (.getfield 131, 3) by decide +kernel) mw_1291 rfl,
    mm_r_iconst X (show decode cX11_undo 50 = .ok (.iconst 1, 1) by decide +kernel) rfl,
    mm_r_ne2 X (show decode cX11_undo 51 = .ok (.if_icmp .ne 40, 3) by decide +kernel) (by decide),
    mm_r_aload_n X (show decode cX11_undo 54 = .ok (.aload_n 0, 1) by decide +kernel) rfl,
    mm_r_gfI X (ci := 11) (p := 12) (show mm_kd 11 12 = 0 by decide +kernel) rfl (Nat.le_of_ble_eq_true rfl) (show decode cX11_undo 55 = .ok (.getfield 134, 3) by decide +kernel) mw_1293 rfl,
    mm_r_eq1 X (show decode cX11_undo 58 = .ok (.ifCond .eq 33, 3) by decide +kernel) (by decide),
    mm_r_aload_n X (show decode cX11_undo 61 = .ok (.aload_n 0, 1) by decide +kernel) rfl,
    mm_r_iconst X (show decode cX11_undo 62 = .ok (.iconst 0, 1) by decide +kernel) rfl,
    mm_r_pfZ X (ci := 11) (p := 12) (show mm_kd 11 12 = 0 by decide +kernel) rfl rfl (Nat.le_of_ble_eq_true rfl) (show decode cX11_undo 63 = .ok (.putfield 134, 3) by decide +kernel) mw_1293 rfl rfl,
    mm_r_aload_n X (show decode cX11_undo 66 = .ok (.aload_n 0, 1) by decide +kernel) rfl,
    mm_r_gfR X (ci := 11) (p := 9) (show mm_kd 11 9 = 2 by decide +kernel) rfl (Nat.le_of_ble_eq_true rfl) (show decode cX11_undo 67 = .ok (.getfield 26, 3) by decide +kernel) mw_1290 rfl,
    mm_r_iconst X (show decode cX11_undo 70 = .ok (.iconst 0, 1) by decide +kernel) rfl,
    mm_r_aload_n X (show decode cX11_undo 71 = .ok (.aload_n 0, 1) by decide +kernel) rfl,
    mm_r_gfR X (ci := 11) (p := 11) (show mm_kd 11 11 = 2 by decide +kernel) rfl (Nat.le_of_ble_eq_true rfl) (show decode cX11_undo 72 = .ok (.getfield 29, 3) by decide +kernel) mw_1292 rfl,
    mm_r_iconst X (show decode cX11_undo 75 = .ok (.iconst 0, 1) by decide +kernel) rfl,
    mm_r_iald X (show decode cX11_undo 76 = .ok (.iaload, 1) by decide +kernel),
    mm_r_clS X hth (na := 1) (sn_X11_bit hl) (show decode cX11_undo 77 = .ok (.invokestatic 119, 3) by decide +kernel) mw_1272 mw_1270 mw_1271 mw_105 hd_X11_bit.2 ⟨(Nat.le_of_ble_eq_true rfl), (Nat.le_of_ble_eq_true rfl)⟩,
    mm_r_last X (show decode cX11_undo 80 = .ok (.lastore, 1) by decide +kernel),
    mm_r_aload_n X (show decode cX11_undo 81 = .ok (.aload_n 0, 1) by decide +kernel) rfl,
    mm_r_gfR X (ci := 11) (p := 9) (show mm_kd 11 9 = 2 by decide +kernel) rfl (Nat.le_of_ble_eq_true rfl) (show decode cX11_undo 82 = .ok (.getfield 26, 3) by decide +kernel) mw_1290 rfl,
    mm_r_iconst X (show decode cX11_undo 85 = .ok (.iconst 1, 1) by decide +kernel) rfl,
    mm_r_lconst X (show decode cX11_undo 86 = .ok (.lconst 0, 1) by decide +kernel) rfl,
    mm_r_last X (show decode cX11_undo 87 = .ok (.lastore, 1) by decide +kernel),
    mm_r_goto X (show decode cX11_undo 88 = .ok (.goto 31, 3) by decide +kernel) (by decide),
    mm_r_aload_n X (show decode cX11_undo 91 = .ok (.aload_n 0, 1) by decide +kernel) rfl,
    mm_r_gfR X (ci := 11) (p := 9) (show mm_kd 11 9 = 2 by decide +kernel) rfl (Nat.le_of_ble_eq_true rfl) (show decode cX11_undo 92 = .ok (.getfield 26, 3) by decide +kernel) mw_1290 rfl,
    mm_r_aload_n X (show decode cX11_undo 95 = .ok (.aload_n 0, 1) by decide +kernel) rfl,
    mm_r_clV X hth (ci := 11) (na := 0) (sn_X11_turn hl) rfl (show decode cX11_undo 96 = .ok (.invokevirtual 183, 3) by decide +kernel) mw_1457 mw_1454 mw_1456 mw_57 mw_105 hd_X11_turn ⟨(Nat.le_of_ble_eq_true rfl), (Nat.le_of_ble_eq_true rfl)⟩,
    mm_r_dup2 X (show decode cX11_undo 99 = .ok (.dup2, 1) by decide +kernel),
    mm_r_lald X (show decode cX11_undo 100 = .ok (.laload, 1) by decide +kernel),
    mm_r_aload_n X (show decode cX11_undo 101 = .ok (.aload_n 0, 1) by decide +kernel) rfl,
    mm_r_gfR X (ci := 11) (p := 11) (show mm_kd 11 11 = 2 by decide +kernel) rfl (Nat.le_of_ble_eq_true rfl) (show decode cX11_undo 102 = .ok (.getfield 29, 3) by decide +kernel) mw_1292 rfl,
    mm_r_aload_n X (show decode cX11_undo 105 = .ok (.aload_n 0, 1) by decide +kernel) rfl,
    mm_r_gfI X (ci := 11) (p := 10) (show mm_kd 11 10 = 0 by decide +kernel) rfl (Nat.le_of_ble_eq_true rfl) (show decode cX11_undo 106 = .ok (.getfield 131, 3) by decide +kernel) mw_1291 rfl,
    mm_r_iald X (show decode cX11_undo 109 = .ok (.iaload, 1) by decide +kernel),
    mm_r_clS X hth (na := 1) (sn_X11_bit hl) (show decode cX11_undo 110 = .ok (.invokestatic 119, 3) by decide +kernel) mw_1272 mw_1270 mw_1271 mw_105 hd_X11_bit.2 ⟨(Nat.le_of_ble_eq_true rfl), (Nat.le_of_ble_eq_true rfl)⟩,
    mm_r_ldc2 X (show decode cX11_undo 113 = .ok (.ldc2_w 151, 3) by decide +kernel) mw_1426,
    mm_r_lxor X (show decode cX11_undo 116 = .ok (.lxor, 1) by decide +kernel),
    mm_r_land X (show decode cX11_undo 117 = .ok (.land, 1) by decide +kernel),
    mm_r_last X (show decode cX11_undo 118 = .ok (.lastore, 1) by decide +kernel),
    mm_r_aload_n X (show decode cX11_undo 119 = .ok (.aload_n 0, 1) by decide +kernel) rfl,
    mm_r_gfI X (ci := 11) (p := 10) (show mm_kd 11 10 = 0 by decide +kernel) rfl (Nat.le_of_ble_eq_true rfl) (show decode cX11_undo 120 = .ok (.getfield 131, 3) by decide +kernel) mw_1291 rfl,
    mm_r_iret X hret (show decode cX11_undo 123 = .ok (.ireturn, 1) by decide +kernel), trivial⟩
theorem sn_X11_undo {l : Launch} (hl : l.stackTraces = false) : mm_Snd l yX11_undo (.code yX11_undo cX11_undo 1 (some .int)) 2 41 f_X11_undo := mm_met hl (plainFor_of_name (by decide +kernel)) (ok_X11_undo hl)
/-! LinkcourtModel.told(I)I -/
noncomputable def tb_X11_told : List (Nat × mm_I) := [(0, mm_ldR 1 0), (1, mm_ldI 2 1), (2, mm_k 3 (.int 0)), (3, mm_k 5 (.int 6)), (5, mm_clS 8 3 f_X11_in), (8, mm_clV 11 11 1 f_X11_asks), (11, mm_ne1 16 14), (14, mm_k 15 (.int 0)), (15, mm_rtI), (16, mm_ldI 17 1), (17, mm_tsw 0 4 80 [52, 57, 62, 70, 75]), (52, mm_ldR 53 0), (53, mm_gfI 56 11 10), (56, mm_rtI), (57, mm_ldR 58 0), (58, mm_clV 61 11 0 f_X11_turn), (61, mm_rtI), (62, mm_ldR 63 0), (63, mm_clV 66 11 0 f_X11_emptyCells), (66, mm_clS 69 1 f_X11_ones), (69, mm_rtI), (70, mm_ldR 71 0), (71, mm_clV 74 11 0 f_X11_joinedNow), (74, mm_rtI), (75, mm_ldR 76 0), (76, mm_clV 79 11 0 f_X11_winner), (79, mm_rtI), (80, mm_ldR 81 0), (81, mm_ldI 82 1), (82, mm_k 83 (.int 5)), (83, mm_i2 84 (fun a b => a - b)), (84, mm_clV 87 11 1 f_X11_groups), (87, mm_rtI)]
noncomputable def f_X11_told : mm_F := mm_do (mm_pr tb_X11_told) 2
theorem mn_X11_told : mm_alln tb_X11_told := ⟨mm_n_ldR _ _, mm_n_ldI _ _, mm_n_k _ _, mm_n_k _ _, mm_n_clS _ _ (mo_X11_in), mm_n_clV _ _ _ (mo_X11_asks), mm_n_ne1 _ _, mm_n_k _ _, mm_n_rtI, mm_n_ldI _ _, mm_n_tsw _ _ _ _, mm_n_ldR _ _, mm_n_gfI _ _ _, mm_n_rtI, mm_n_ldR _ _, mm_n_clV _ _ _ (mo_X11_turn), mm_n_rtI, mm_n_ldR _ _, mm_n_clV _ _ _ (mo_X11_emptyCells), mm_n_clS _ _ (mo_X11_ones), mm_n_rtI, mm_n_ldR _ _, mm_n_clV _ _ _ (mo_X11_joinedNow), mm_n_rtI, mm_n_ldR _ _, mm_n_clV _ _ _ (mo_X11_winner), mm_n_rtI, mm_n_ldR _ _, mm_n_ldI _ _, mm_n_k _ _, mm_n_i2 _ _, mm_n_clV _ _ _ (mo_X11_groups), mm_n_rtI, trivial⟩
theorem mo_X11_told : mm_Mo f_X11_told := mm_do_mo (mm_alln_mem mn_X11_told)
set_option maxRecDepth 10000 in
theorem ok_X11_told {l : Launch} (hl : l.stackTraces = false) : mm_Ok l yX11_told cX11_told 2 (some .int) 7 164 tb_X11_told := by
  refine ⟨mm_alln_mem mn_X11_told, fun p e cells slots s m args below meth c D tc A S ad Tg X hret hname htab hth => mm_allr_mem ?_⟩
  exact ⟨mm_r_aload_n X (show decode cX11_told 0 = .ok (.aload_n 0, 1) by decide +kernel) rfl,
    mm_r_iload_n X (show decode cX11_told 1 = .ok (.iload_n 1, 1) by decide +kernel) rfl,
    mm_r_iconst X (show decode cX11_told 2 = .ok (.iconst 0, 1) by decide +kernel) rfl,
    mm_r_bipush X (show decode cX11_told 3 = .ok (.bipush 6, 2) by decide +kernel) rfl,
    mm_r_clS X hth (na := 3) (sn_X11_in hl) (show decode cX11_told 5 = .ok (.invokestatic 98, 3) by decide +kernel) mw_1269 mw_1267 mw_1268 mw_105 hd_X11_in.2 ⟨(Nat.le_of_ble_eq_true rfl), (Nat.le_of_ble_eq_true rfl)⟩,
    mm_r_clV X hth (ci := 11) (na := 1) (sn_X11_asks hl) rfl (show decode cX11_told 8 = .ok (.invokevirtual 164, 3) by decide +kernel) mw_1413 mw_1410 mw_1412 mw_48 mw_105 hd_X11_asks ⟨(Nat.le_of_ble_eq_true rfl), (Nat.le_of_ble_eq_true rfl)⟩,
    mm_r_ne1 X (show decode cX11_told 11 = .ok (.ifCond .ne 5, 3) by decide +kernel) (by decide),
    mm_r_iconst X (show decode cX11_told 14 = .ok (.iconst 0, 1) by decide +kernel) rfl,
    mm_r_iret X hret (show decode cX11_told 15 = .ok (.ireturn, 1) by decide +kernel),
    mm_r_iload_n X (show decode cX11_told 16 = .ok (.iload_n 1, 1) by decide +kernel) rfl,
    mm_r_tsw X (show decode cX11_told 17 = .ok (.tableswitch 63 0 4 #[35, 40, 45, 53, 58], 35) by decide +kernel) (by decide) (by decide) (by decide),
    mm_r_aload_n X (show decode cX11_told 52 = .ok (.aload_n 0, 1) by decide +kernel) rfl,
    mm_r_gfI X (ci := 11) (p := 10) (show mm_kd 11 10 = 0 by decide +kernel) rfl (Nat.le_of_ble_eq_true rfl) (show decode cX11_told 53 = .ok (.getfield 131, 3) by decide +kernel) mw_1291 rfl,
    mm_r_iret X hret (show decode cX11_told 56 = .ok (.ireturn, 1) by decide +kernel),
    mm_r_aload_n X (show decode cX11_told 57 = .ok (.aload_n 0, 1) by decide +kernel) rfl,
    mm_r_clV X hth (ci := 11) (na := 0) (sn_X11_turn hl) rfl (show decode cX11_told 58 = .ok (.invokevirtual 183, 3) by decide +kernel) mw_1457 mw_1454 mw_1456 mw_57 mw_105 hd_X11_turn ⟨(Nat.le_of_ble_eq_true rfl), (Nat.le_of_ble_eq_true rfl)⟩,
    mm_r_iret X hret (show decode cX11_told 61 = .ok (.ireturn, 1) by decide +kernel),
    mm_r_aload_n X (show decode cX11_told 62 = .ok (.aload_n 0, 1) by decide +kernel) rfl,
    mm_r_clV X hth (ci := 11) (na := 0) (sn_X11_emptyCells hl) rfl (show decode cX11_told 63 = .ok (.invokevirtual 172, 3) by decide +kernel) mw_1425 mw_1422 mw_1424 mw_50 mw_105 hd_X11_emptyCells ⟨(Nat.le_of_ble_eq_true rfl), (Nat.le_of_ble_eq_true rfl)⟩,
    mm_r_clS X hth (na := 1) (sn_X11_ones hl) (show decode cX11_told 66 = .ok (.invokestatic 189, 3) by decide +kernel) mw_1476 mw_1474 mw_1475 mw_105 hd_X11_ones.2 ⟨(Nat.le_of_ble_eq_true rfl), (Nat.le_of_ble_eq_true rfl)⟩,
    mm_r_iret X hret (show decode cX11_told 69 = .ok (.ireturn, 1) by decide +kernel),
    mm_r_aload_n X (show decode cX11_told 70 = .ok (.aload_n 0, 1) by decide +kernel) rfl,
    mm_r_clV X hth (ci := 11) (na := 0) (sn_X11_joinedNow hl) rfl (show decode cX11_told 71 = .ok (.invokevirtual 161, 3) by decide +kernel) mw_1441 mw_1438 mw_1440 mw_53 mw_105 hd_X11_joinedNow ⟨(Nat.le_of_ble_eq_true rfl), (Nat.le_of_ble_eq_true rfl)⟩,
    mm_r_iret X hret (show decode cX11_told 74 = .ok (.ireturn, 1) by decide +kernel),
    mm_r_aload_n X (show decode cX11_told 75 = .ok (.aload_n 0, 1) by decide +kernel) rfl,
    mm_r_clV X hth (ci := 11) (na := 0) (sn_X11_winner hl) rfl (show decode cX11_told 76 = .ok (.invokevirtual 180, 3) by decide +kernel) mw_1437 mw_1434 mw_1436 mw_52 mw_105 hd_X11_winner ⟨(Nat.le_of_ble_eq_true rfl), (Nat.le_of_ble_eq_true rfl)⟩,
    mm_r_iret X hret (show decode cX11_told 79 = .ok (.ireturn, 1) by decide +kernel),
    mm_r_aload_n X (show decode cX11_told 80 = .ok (.aload_n 0, 1) by decide +kernel) rfl,
    mm_r_iload_n X (show decode cX11_told 81 = .ok (.iload_n 1, 1) by decide +kernel) rfl,
    mm_r_iconst X (show decode cX11_told 82 = .ok (.iconst 5, 1) by decide +kernel) rfl,
    mm_r_isub X (show decode cX11_told 83 = .ok (.isub, 1) by decide +kernel),
    mm_r_clV X hth (ci := 11) (na := 1) (sn_X11_groups hl) rfl (show decode cX11_told 84 = .ok (.invokevirtual 193, 3) by decide +kernel) mw_1480 mw_1477 mw_1479 mw_59 mw_105 hd_X11_groups ⟨(Nat.le_of_ble_eq_true rfl), (Nat.le_of_ble_eq_true rfl)⟩,
    mm_r_iret X hret (show decode cX11_told 87 = .ok (.ireturn, 1) by decide +kernel), trivial⟩
theorem sn_X11_told {l : Launch} (hl : l.stackTraces = false) : mm_Snd l yX11_told (.code yX11_told cX11_told 2 (some .int)) 7 164 f_X11_told := mm_met hl (plainFor_of_name (by decide +kernel)) (ok_X11_told hl)
/-! LinkcourtModel.sidesOf(J)I -/
noncomputable def tb_X11_sidesOf : List (Nat × mm_I) := [(0, mm_k 1 (.int 0)), (1, mm_stI 2 3), (2, mm_k 3 (.int 0)), (3, mm_stI 5 4), (5, mm_ldI 7 4), (7, mm_ldR 8 0), (8, mm_clV 11 11 0 f_X11_sides), (11, mm_ge2 45 14), (14, mm_ldI 15 3), (15, mm_ldJ 16 1), (16, mm_ldR 17 0), (17, mm_gfR 20 11 8), (20, mm_ldI 22 4), (22, mm_aldJ 23), (23, mm_l2 24 (fun a b => a &&& b)), (24, mm_k 25 (.long 0)), (25, mm_cmp 26), (26, mm_eq1 36 29), (29, mm_k 30 (.int 1)), (30, mm_ldI 32 4), (32, mm_i2 33 (fun a b => a <<< (b &&& 31))), (33, mm_go 37), (36, mm_k 37 (.int 0)), (37, mm_i2 38 (fun a b => a ||| b)), (38, mm_stI 39 3), (39, mm_inc 42 4 1), (42, mm_go 5), (45, mm_ldI 46 3), (46, mm_rtI)]
noncomputable def f_X11_sidesOf : mm_F := mm_do (mm_pr tb_X11_sidesOf) 5
theorem mn_X11_sidesOf : mm_alln tb_X11_sidesOf := ⟨mm_n_k _ _, mm_n_stI _ _, mm_n_k _ _, mm_n_stI _ _, mm_n_ldI _ _, mm_n_ldR _ _, mm_n_clV _ _ _ (mo_X11_sides), mm_n_ge2 _ _, mm_n_ldI _ _, mm_n_ldJ _ _, mm_n_ldR _ _, mm_n_gfR _ _ _, mm_n_ldI _ _, mm_n_aldJ _, mm_n_l2 _ _, mm_n_k _ _, mm_n_cmp _, mm_n_eq1 _ _, mm_n_k _ _, mm_n_ldI _ _, mm_n_i2 _ _, mm_n_go _, mm_n_k _ _, mm_n_i2 _ _, mm_n_stI _ _, mm_n_inc _ _ _, mm_n_go _, mm_n_ldI _ _, mm_n_rtI, trivial⟩
theorem mo_X11_sidesOf : mm_Mo f_X11_sidesOf := mm_do_mo (mm_alln_mem mn_X11_sidesOf)
set_option maxRecDepth 10000 in
theorem ok_X11_sidesOf {l : Launch} (hl : l.stackTraces = false) : mm_Ok l yX11_sidesOf cX11_sidesOf 5 (some .int) 2 40 tb_X11_sidesOf := by
  refine ⟨mm_alln_mem mn_X11_sidesOf, fun p e cells slots s m args below meth c D tc A S ad Tg X hret hname htab hth => mm_allr_mem ?_⟩
  exact ⟨mm_r_iconst X (show decode cX11_sidesOf 0 = .ok (.iconst 0, 1) by decide +kernel) rfl,
    mm_r_istore_n X (show decode cX11_sidesOf 1 = .ok (.istore_n 3, 1) by decide +kernel) rfl (Nat.le_of_ble_eq_true rfl),
    mm_r_iconst X (show decode cX11_sidesOf 2 = .ok (.iconst 0, 1) by decide +kernel) rfl,
    mm_r_istore X (show decode cX11_sidesOf 3 = .ok (.istore 4, 2) by decide +kernel) (Nat.le_of_ble_eq_true rfl),
    mm_r_iload X (show decode cX11_sidesOf 5 = .ok (.iload 4, 2) by decide +kernel),
    mm_r_aload_n X (show decode cX11_sidesOf 7 = .ok (.aload_n 0, 1) by decide +kernel) rfl,
    mm_r_clV X hth (ci := 11) (na := 0) (sn_X11_sides hl) rfl (show decode cX11_sidesOf 8 = .ok (.invokevirtual 123, 3) by decide +kernel) mw_1276 mw_1273 mw_1275 mw_46 mw_105 hd_X11_sides ⟨(Nat.le_of_ble_eq_true rfl), (Nat.le_of_ble_eq_true rfl)⟩,
    mm_r_ge2 X (show decode cX11_sidesOf 11 = .ok (.if_icmp .ge 34, 3) by decide +kernel) (by decide),
    mm_r_iload_n X (show decode cX11_sidesOf 14 = .ok (.iload_n 3, 1) by decide +kernel) rfl,
    mm_r_lload_n X (show decode cX11_sidesOf 15 = .ok (.lload_n 1, 1) by decide +kernel) rfl,
    mm_r_aload_n X (show decode cX11_sidesOf 16 = .ok (.aload_n 0, 1) by decide +kernel) rfl,
    mm_r_gfR X (ci := 11) (p := 8) (show mm_kd 11 8 = 2 by decide +kernel) rfl (Nat.le_of_ble_eq_true rfl) (show decode cX11_sidesOf 17 = .ok (.getfield 23, 3) by decide +kernel) mw_1289 rfl,
    mm_r_iload X (show decode cX11_sidesOf 20 = .ok (.iload 4, 2) by decide +kernel),
    mm_r_lald X (show decode cX11_sidesOf 22 = .ok (.laload, 1) by decide +kernel),
    mm_r_land X (show decode cX11_sidesOf 23 = .ok (.land, 1) by decide +kernel),
    mm_r_lconst X (show decode cX11_sidesOf 24 = .ok (.lconst 0, 1) by decide +kernel) rfl,
    mm_r_lcmp X (show decode cX11_sidesOf 25 = .ok (.lcmp, 1) by decide +kernel),
    mm_r_eq1 X (show decode cX11_sidesOf 26 = .ok (.ifCond .eq 10, 3) by decide +kernel) (by decide),
    mm_r_iconst X (show decode cX11_sidesOf 29 = .ok (.iconst 1, 1) by decide +kernel) rfl,
    mm_r_iload X (show decode cX11_sidesOf 30 = .ok (.iload 4, 2) by decide +kernel),
    mm_r_ishl X (show decode cX11_sidesOf 32 = .ok (.ishl, 1) by decide +kernel),
    mm_r_goto X (show decode cX11_sidesOf 33 = .ok (.goto 4, 3) by decide +kernel) (by decide),
    mm_r_iconst X (show decode cX11_sidesOf 36 = .ok (.iconst 0, 1) by decide +kernel) rfl,
    mm_r_ior X (show decode cX11_sidesOf 37 = .ok (.ior, 1) by decide +kernel),
    mm_r_istore_n X (show decode cX11_sidesOf 38 = .ok (.istore_n 3, 1) by decide +kernel) rfl (Nat.le_of_ble_eq_true rfl),
    mm_r_iinc X (show decode cX11_sidesOf 39 = .ok (.iinc 4 1, 3) by decide +kernel) rfl (Nat.le_of_ble_eq_true rfl),
    mm_r_goto X (show decode cX11_sidesOf 42 = .ok (.goto (-37), 3) by decide +kernel) (by decide),
    mm_r_iload_n X (show decode cX11_sidesOf 45 = .ok (.iload_n 3, 1) by decide +kernel) rfl,
    mm_r_iret X hret (show decode cX11_sidesOf 46 = .ok (.ireturn, 1) by decide +kernel), trivial⟩
theorem sn_X11_sidesOf {l : Launch} (hl : l.stackTraces = false) : mm_Snd l yX11_sidesOf (.code yX11_sidesOf cX11_sidesOf 5 (some .int)) 2 40 f_X11_sidesOf := mm_met hl (plainFor_of_name (by decide +kernel)) (ok_X11_sidesOf hl)
/-! LinkcourtModel.moveOf(I)I -/
noncomputable def tb_X11_moveOf : List (Nat × mm_I) := [(0, mm_k 1 (.int (-1))), (1, mm_stI 2 2), (2, mm_ldR 3 0), (3, mm_gfI 6 11 12), (6, mm_eq1 13 9), (9, mm_k 10 (.int 1)), (10, mm_go 14), (13, mm_k 14 (.int 0)), (14, mm_stI 15 3), (15, mm_ldI 16 3), (16, mm_ldR 17 0), (17, mm_gfI 20 11 10), (20, mm_ge2 45 23), (23, mm_ldR 24 0), (24, mm_gfR 27 11 11), (27, mm_ldI 28 3), (28, mm_ald 29 0), (29, mm_ldI 30 1), (30, mm_ne2 37 33), (33, mm_ldI 34 3), (34, mm_go 38), (37, mm_ldI 38 2), (38, mm_stI 39 2), (39, mm_inc 42 3 1), (42, mm_go 15), (45, mm_ldI 46 2), (46, mm_rtI)]
noncomputable def f_X11_moveOf : mm_F := mm_do (mm_pr tb_X11_moveOf) 4
theorem mn_X11_moveOf : mm_alln tb_X11_moveOf := ⟨mm_n_k _ _, mm_n_stI _ _, mm_n_ldR _ _, mm_n_gfI _ _ _, mm_n_eq1 _ _, mm_n_k _ _, mm_n_go _, mm_n_k _ _, mm_n_stI _ _, mm_n_ldI _ _, mm_n_ldR _ _, mm_n_gfI _ _ _, mm_n_ge2 _ _, mm_n_ldR _ _, mm_n_gfR _ _ _, mm_n_ldI _ _, mm_n_ald _ _, mm_n_ldI _ _, mm_n_ne2 _ _, mm_n_ldI _ _, mm_n_go _, mm_n_ldI _ _, mm_n_stI _ _, mm_n_inc _ _ _, mm_n_go _, mm_n_ldI _ _, mm_n_rtI, trivial⟩
theorem mo_X11_moveOf : mm_Mo f_X11_moveOf := mm_do_mo (mm_alln_mem mn_X11_moveOf)
set_option maxRecDepth 10000 in
theorem ok_X11_moveOf {l : Launch} (hl : l.stackTraces = false) : mm_Ok l yX11_moveOf cX11_moveOf 4 (some .int) 1 20 tb_X11_moveOf := by
  refine ⟨mm_alln_mem mn_X11_moveOf, fun p e cells slots s m args below meth c D tc A S ad Tg X hret hname htab hth => mm_allr_mem ?_⟩
  exact ⟨mm_r_iconst X (show decode cX11_moveOf 0 = .ok (.iconst (-1), 1) by decide +kernel) rfl,
    mm_r_istore_n X (show decode cX11_moveOf 1 = .ok (.istore_n 2, 1) by decide +kernel) rfl (Nat.le_of_ble_eq_true rfl),
    mm_r_aload_n X (show decode cX11_moveOf 2 = .ok (.aload_n 0, 1) by decide +kernel) rfl,
    mm_r_gfI X (ci := 11) (p := 12) (show mm_kd 11 12 = 0 by decide +kernel) rfl (Nat.le_of_ble_eq_true rfl) (show decode cX11_moveOf 3 = .ok (.getfield 134, 3) by decide +kernel) mw_1293 rfl,
    mm_r_eq1 X (show decode cX11_moveOf 6 = .ok (.ifCond .eq 7, 3) by decide +kernel) (by decide),
    mm_r_iconst X (show decode cX11_moveOf 9 = .ok (.iconst 1, 1) by decide +kernel) rfl,
    mm_r_goto X (show decode cX11_moveOf 10 = .ok (.goto 4, 3) by decide +kernel) (by decide),
    mm_r_iconst X (show decode cX11_moveOf 13 = .ok (.iconst 0, 1) by decide +kernel) rfl,
    mm_r_istore_n X (show decode cX11_moveOf 14 = .ok (.istore_n 3, 1) by decide +kernel) rfl (Nat.le_of_ble_eq_true rfl),
    mm_r_iload_n X (show decode cX11_moveOf 15 = .ok (.iload_n 3, 1) by decide +kernel) rfl,
    mm_r_aload_n X (show decode cX11_moveOf 16 = .ok (.aload_n 0, 1) by decide +kernel) rfl,
    mm_r_gfI X (ci := 11) (p := 10) (show mm_kd 11 10 = 0 by decide +kernel) rfl (Nat.le_of_ble_eq_true rfl) (show decode cX11_moveOf 17 = .ok (.getfield 131, 3) by decide +kernel) mw_1291 rfl,
    mm_r_ge2 X (show decode cX11_moveOf 20 = .ok (.if_icmp .ge 25, 3) by decide +kernel) (by decide),
    mm_r_aload_n X (show decode cX11_moveOf 23 = .ok (.aload_n 0, 1) by decide +kernel) rfl,
    mm_r_gfR X (ci := 11) (p := 11) (show mm_kd 11 11 = 2 by decide +kernel) rfl (Nat.le_of_ble_eq_true rfl) (show decode cX11_moveOf 24 = .ok (.getfield 29, 3) by decide +kernel) mw_1292 rfl,
    mm_r_iload_n X (show decode cX11_moveOf 27 = .ok (.iload_n 3, 1) by decide +kernel) rfl,
    mm_r_iald X (show decode cX11_moveOf 28 = .ok (.iaload, 1) by decide +kernel),
    mm_r_iload_n X (show decode cX11_moveOf 29 = .ok (.iload_n 1, 1) by decide +kernel) rfl,
    mm_r_ne2 X (show decode cX11_moveOf 30 = .ok (.if_icmp .ne 7, 3) by decide +kernel) (by decide),
    mm_r_iload_n X (show decode cX11_moveOf 33 = .ok (.iload_n 3, 1) by decide +kernel) rfl,
    mm_r_goto X (show decode cX11_moveOf 34 = .ok (.goto 4, 3) by decide +kernel) (by decide),
    mm_r_iload_n X (show decode cX11_moveOf 37 = .ok (.iload_n 2, 1) by decide +kernel) rfl,
    mm_r_istore_n X (show decode cX11_moveOf 38 = .ok (.istore_n 2, 1) by decide +kernel) rfl (Nat.le_of_ble_eq_true rfl),
    mm_r_iinc X (show decode cX11_moveOf 39 = .ok (.iinc 3 1, 3) by decide +kernel) rfl (Nat.le_of_ble_eq_true rfl),
    mm_r_goto X (show decode cX11_moveOf 42 = .ok (.goto (-27), 3) by decide +kernel) (by decide),
    mm_r_iload_n X (show decode cX11_moveOf 45 = .ok (.iload_n 2, 1) by decide +kernel) rfl,
    mm_r_iret X hret (show decode cX11_moveOf 46 = .ok (.ireturn, 1) by decide +kernel), trivial⟩
theorem sn_X11_moveOf {l : Launch} (hl : l.stackTraces = false) : mm_Snd l yX11_moveOf (.code yX11_moveOf cX11_moveOf 4 (some .int)) 1 20 f_X11_moveOf := mm_met hl (plainFor_of_name (by decide +kernel)) (ok_X11_moveOf hl)
