/-! codes: by program (wip/p32/gen/gencode.py) -/
/-! Linkcourt.fitsAnew(II)J -/
noncomputable def tb_X10_fitsAnew : List (Nat × mm_I) := [(0, mm_ldR 1 0), (1, mm_gfR 4 10 6), (4, mm_ldI 5 1), (5, mm_clV 8 5 1 f_X5_hasPattern), (8, mm_eq1 18 11), (11, mm_ldI 12 2), (12, mm_clS 15 1 f_X10_isPlayer), (15, mm_ne1 29 18), (18, mm_thr 1), (29, mm_ldR 30 0), (30, mm_gfR 33 10 6), (33, mm_ldI 34 1), (34, mm_ldR 35 0), (35, mm_gfR 38 10 1), (38, mm_ldI 39 2), (39, mm_clV 42 6 1 f_X6_stones), (42, mm_ldR 43 0), (43, mm_gfR 46 10 1), (46, mm_k 47 (.int 1)), (47, mm_ldI 48 2), (48, mm_i2 49 (fun a b => a - b)), (49, mm_clV 52 6 1 f_X6_stones), (52, mm_clV 55 5 3 f_X5_placesByText), (55, mm_rtJ)]
noncomputable def f_X10_fitsAnew : mm_F := mm_do (mm_pr tb_X10_fitsAnew) 3
theorem mn_X10_fitsAnew : mm_alln tb_X10_fitsAnew := ⟨mm_n_ldR _ _, mm_n_gfR _ _ _, mm_n_ldI _ _, mm_n_clV _ _ _ (mo_X5_hasPattern), mm_n_eq1 _ _, mm_n_ldI _ _, mm_n_clS _ _ (mo_X10_isPlayer), mm_n_ne1 _ _, mm_n_thr _, mm_n_ldR _ _, mm_n_gfR _ _ _, mm_n_ldI _ _, mm_n_ldR _ _, mm_n_gfR _ _ _, mm_n_ldI _ _, mm_n_clV _ _ _ (mo_X6_stones), mm_n_ldR _ _, mm_n_gfR _ _ _, mm_n_k _ _, mm_n_ldI _ _, mm_n_i2 _ _, mm_n_clV _ _ _ (mo_X6_stones), mm_n_clV _ _ _ (mo_X5_placesByText), mm_n_rtJ, trivial⟩
theorem mo_X10_fitsAnew : mm_Mo f_X10_fitsAnew := mm_do_mo (mm_alln_mem mn_X10_fitsAnew)
set_option maxRecDepth 10000 in
theorem ok_X10_fitsAnew {l : Launch} (hl : l.stackTraces = false) : mm_Ok l yX10_fitsAnew cX10_fitsAnew 3 (some .long) 6 155 tb_X10_fitsAnew := by
  refine ⟨mm_alln_mem mn_X10_fitsAnew, fun p e cells slots s m args below meth c D tc A S ad Tg X hret hname htab hth => mm_allr_mem ?_⟩
  exact ⟨mm_r_aload_n X (show decode cX10_fitsAnew 0 = .ok (.aload_n 0, 1) by decide +kernel) rfl,
    mm_r_gfR X (ci := 10) (p := 6) (show mm_kd 10 6 = 2 by decide +kernel) rfl (Nat.le_of_ble_eq_true rfl) (show decode cX10_fitsAnew 1 = .ok (.getfield 63, 3) by decide +kernel) mw_434 rfl,
    mm_r_iload_n X (show decode cX10_fitsAnew 4 = .ok (.iload_n 1, 1) by decide +kernel) rfl,
    mm_r_clV X hth (ci := 5) (na := 1) (sn_X5_hasPattern hl) rfl (show decode cX10_fitsAnew 5 = .ok (.invokevirtual 312, 3) by decide +kernel) mw_618 mw_615 mw_616 mw_617 mw_53 hd_X5_hasPattern ⟨(Nat.le_of_ble_eq_true rfl), (Nat.le_of_ble_eq_true rfl)⟩,
    mm_r_eq1 X (show decode cX10_fitsAnew 8 = .ok (.ifCond .eq 10, 3) by decide +kernel) (by decide),
    mm_r_iload_n X (show decode cX10_fitsAnew 11 = .ok (.iload_n 2, 1) by decide +kernel) rfl,
    mm_r_clS X hth (na := 1) (sn_X10_isPlayer hl) (show decode cX10_fitsAnew 12 = .ok (.invokestatic 257, 3) by decide +kernel) mw_621 mw_619 mw_620 mw_44 hd_X10_isPlayer.2 ⟨(Nat.le_of_ble_eq_true rfl), (Nat.le_of_ble_eq_true rfl)⟩,
    mm_r_ne1 X (show decode cX10_fitsAnew 15 = .ok (.ifCond .ne 14, 3) by decide +kernel) (by decide),
    mm_r_thrW X htab (E := 1) (ik := 110) (is := 315) (ic := 114) (text := "there is no such pattern or player") (by decide) rfl mm_aw1 mw_569 mw_60 (by decide +kernel) (show decode cX10_fitsAnew 18 = .ok (.new 110, 3) by decide +kernel) (show decode cX10_fitsAnew 21 = .ok (.dup, 1) by decide +kernel) (show decode cX10_fitsAnew 22 = .ok (.ldc_w 315, 3) by decide +kernel) (show decode cX10_fitsAnew 25 = .ok (.invokespecial 114, 3) by decide +kernel) (show decode cX10_fitsAnew 28 = .ok (.athrow, 1) by decide +kernel) (Nat.le_of_ble_eq_true rfl) (Nat.le_of_ble_eq_true rfl),
    mm_r_aload_n X (show decode cX10_fitsAnew 29 = .ok (.aload_n 0, 1) by decide +kernel) rfl,
    mm_r_gfR X (ci := 10) (p := 6) (show mm_kd 10 6 = 2 by decide +kernel) rfl (Nat.le_of_ble_eq_true rfl) (show decode cX10_fitsAnew 30 = .ok (.getfield 63, 3) by decide +kernel) mw_434 rfl,
    mm_r_iload_n X (show decode cX10_fitsAnew 33 = .ok (.iload_n 1, 1) by decide +kernel) rfl,
    mm_r_aload_n X (show decode cX10_fitsAnew 34 = .ok (.aload_n 0, 1) by decide +kernel) rfl,
    mm_r_gfR X (ci := 10) (p := 1) (show mm_kd 10 1 = 2 by decide +kernel) rfl (Nat.le_of_ble_eq_true rfl) (show decode cX10_fitsAnew 35 = .ok (.getfield 28, 3) by decide +kernel) mw_429 rfl,
    mm_r_iload_n X (show decode cX10_fitsAnew 38 = .ok (.iload_n 2, 1) by decide +kernel) rfl,
    mm_r_clV X hth (ci := 6) (na := 1) (sn_X6_stones hl) rfl (show decode cX10_fitsAnew 39 = .ok (.invokevirtual 194, 3) by decide +kernel) mw_601 mw_598 mw_599 mw_600 mw_46 hd_X6_stones ⟨(Nat.le_of_ble_eq_true rfl), (Nat.le_of_ble_eq_true rfl)⟩,
    mm_r_aload_n X (show decode cX10_fitsAnew 42 = .ok (.aload_n 0, 1) by decide +kernel) rfl,
    mm_r_gfR X (ci := 10) (p := 1) (show mm_kd 10 1 = 2 by decide +kernel) rfl (Nat.le_of_ble_eq_true rfl) (show decode cX10_fitsAnew 43 = .ok (.getfield 28, 3) by decide +kernel) mw_429 rfl,
    mm_r_iconst X (show decode cX10_fitsAnew 46 = .ok (.iconst 1, 1) by decide +kernel) rfl,
    mm_r_iload_n X (show decode cX10_fitsAnew 47 = .ok (.iload_n 2, 1) by decide +kernel) rfl,
    mm_r_isub X (show decode cX10_fitsAnew 48 = .ok (.isub, 1) by decide +kernel),
    mm_r_clV X hth (ci := 6) (na := 1) (sn_X6_stones hl) rfl (show decode cX10_fitsAnew 49 = .ok (.invokevirtual 194, 3) by decide +kernel) mw_601 mw_598 mw_599 mw_600 mw_46 hd_X6_stones ⟨(Nat.le_of_ble_eq_true rfl), (Nat.le_of_ble_eq_true rfl)⟩,
    mm_r_clV X hth (ci := 5) (na := 3) (sn_X5_placesByText hl) rfl (show decode cX10_fitsAnew 52 = .ok (.invokevirtual 321, 3) by decide +kernel) mw_1132 mw_1129 mw_1130 mw_1131 mw_53 hd_X5_placesByText ⟨(Nat.le_of_ble_eq_true rfl), (Nat.le_of_ble_eq_true rfl)⟩,
    mm_r_lret X hret (show decode cX10_fitsAnew 55 = .ok (.lreturn, 1) by decide +kernel), trivial⟩
theorem sn_X10_fitsAnew {l : Launch} (hl : l.stackTraces = false) : mm_Snd l yX10_fitsAnew (.code yX10_fitsAnew cX10_fitsAnew 3 (some .long)) 6 155 f_X10_fitsAnew := mm_met hl (plainFor_of_name (by decide +kernel)) (ok_X10_fitsAnew hl)
/-! Linkcourt.clocks(III)V -/
noncomputable def tb_X10_clocks : List (Nat × mm_I) := [(0, mm_ldI 1 1), (1, mm_lt1 38 4), (4, mm_ldI 5 1), (5, mm_k 8 (.int 3600)), (8, mm_gt2 38 11), (11, mm_ldI 12 2), (12, mm_lt1 38 15), (15, mm_ldI 16 2), (16, mm_k 18 (.int 9)), (18, mm_gt2 38 21), (21, mm_ldI 22 3), (22, mm_k 23 (.int 1)), (23, mm_lt2 38 26), (26, mm_ldI 27 3), (27, mm_k 29 (.int 60)), (29, mm_gt2 38 32), (32, mm_ldI 33 1), (33, mm_ldI 34 2), (34, mm_i2 35 (fun a b => a + b)), (35, mm_ne1 49 38), (38, mm_thr 2), (49, mm_ldR 50 0), (50, mm_gfR 53 10 7), (53, mm_gfI 56 8 4), (56, mm_ne1 77 59), (59, mm_ldR 60 0), (60, mm_gfR 63 10 1), (63, mm_gfI 66 6 2), (66, mm_gt1 77 69), (69, mm_ldR 70 0), (70, mm_clV 73 10 0 f_X10_winner), (73, mm_k 74 (.int (-1))), (74, mm_eq2 88 77), (77, mm_thr 3), (88, mm_ldR 89 0), (89, mm_gfR 92 10 7), (92, mm_ldI 93 1), (93, mm_ldI 94 2), (94, mm_ldI 95 3), (95, mm_clV 98 8 3 f_X8_start), (98, mm_rtV)]
noncomputable def f_X10_clocks : mm_F := mm_do (mm_pr tb_X10_clocks) 4
theorem mn_X10_clocks : mm_alln tb_X10_clocks := ⟨mm_n_ldI _ _, mm_n_lt1 _ _, mm_n_ldI _ _, mm_n_k _ _, mm_n_gt2 _ _, mm_n_ldI _ _, mm_n_lt1 _ _, mm_n_ldI _ _, mm_n_k _ _, mm_n_gt2 _ _, mm_n_ldI _ _, mm_n_k _ _, mm_n_lt2 _ _, mm_n_ldI _ _, mm_n_k _ _, mm_n_gt2 _ _, mm_n_ldI _ _, mm_n_ldI _ _, mm_n_i2 _ _, mm_n_ne1 _ _, mm_n_thr _, mm_n_ldR _ _, mm_n_gfR _ _ _, mm_n_gfI _ _ _, mm_n_ne1 _ _, mm_n_ldR _ _, mm_n_gfR _ _ _, mm_n_gfI _ _ _, mm_n_gt1 _ _, mm_n_ldR _ _, mm_n_clV _ _ _ (mo_X10_winner), mm_n_k _ _, mm_n_eq2 _ _, mm_n_thr _, mm_n_ldR _ _, mm_n_gfR _ _ _, mm_n_ldI _ _, mm_n_ldI _ _, mm_n_ldI _ _, mm_n_clV _ _ _ (mo_X8_start), mm_n_rtV, trivial⟩
theorem mo_X10_clocks : mm_Mo f_X10_clocks := mm_do_mo (mm_alln_mem mn_X10_clocks)
set_option maxRecDepth 10000 in
theorem ok_X10_clocks {l : Launch} (hl : l.stackTraces = false) : mm_Ok l yX10_clocks cX10_clocks 4 none 6 90 tb_X10_clocks := by
  refine ⟨mm_alln_mem mn_X10_clocks, fun p e cells slots s m args below meth c D tc A S ad Tg X hret hname htab hth => mm_allr_mem ?_⟩
  exact ⟨mm_r_iload_n X (show decode cX10_clocks 0 = .ok (.iload_n 1, 1) by decide +kernel) rfl,
    mm_r_lt1 X (show decode cX10_clocks 1 = .ok (.ifCond .lt 37, 3) by decide +kernel) (by decide),
    mm_r_iload_n X (show decode cX10_clocks 4 = .ok (.iload_n 1, 1) by decide +kernel) rfl,
    mm_r_sipush X (show decode cX10_clocks 5 = .ok (.sipush 3600, 3) by decide +kernel) rfl,
    mm_r_gt2 X (show decode cX10_clocks 8 = .ok (.if_icmp .gt 30, 3) by decide +kernel) (by decide),
    mm_r_iload_n X (show decode cX10_clocks 11 = .ok (.iload_n 2, 1) by decide +kernel) rfl,
    mm_r_lt1 X (show decode cX10_clocks 12 = .ok (.ifCond .lt 26, 3) by decide +kernel) (by decide),
    mm_r_iload_n X (show decode cX10_clocks 15 = .ok (.iload_n 2, 1) by decide +kernel) rfl,
    mm_r_bipush X (show decode cX10_clocks 16 = .ok (.bipush 9, 2) by decide +kernel) rfl,
    mm_r_gt2 X (show decode cX10_clocks 18 = .ok (.if_icmp .gt 20, 3) by decide +kernel) (by decide),
    mm_r_iload_n X (show decode cX10_clocks 21 = .ok (.iload_n 3, 1) by decide +kernel) rfl,
    mm_r_iconst X (show decode cX10_clocks 22 = .ok (.iconst 1, 1) by decide +kernel) rfl,
    mm_r_lt2 X (show decode cX10_clocks 23 = .ok (.if_icmp .lt 15, 3) by decide +kernel) (by decide),
    mm_r_iload_n X (show decode cX10_clocks 26 = .ok (.iload_n 3, 1) by decide +kernel) rfl,
    mm_r_bipush X (show decode cX10_clocks 27 = .ok (.bipush 60, 2) by decide +kernel) rfl,
    mm_r_gt2 X (show decode cX10_clocks 29 = .ok (.if_icmp .gt 9, 3) by decide +kernel) (by decide),
    mm_r_iload_n X (show decode cX10_clocks 32 = .ok (.iload_n 1, 1) by decide +kernel) rfl,
    mm_r_iload_n X (show decode cX10_clocks 33 = .ok (.iload_n 2, 1) by decide +kernel) rfl,
    mm_r_iadd X (show decode cX10_clocks 34 = .ok (.iadd, 1) by decide +kernel),
    mm_r_ne1 X (show decode cX10_clocks 35 = .ok (.ifCond .ne 14, 3) by decide +kernel) (by decide),
    mm_r_thrW X htab (E := 2) (ik := 85) (is := 324) (ic := 89) (text := "there are no such clocks") (by decide) rfl mm_aw2 mw_494 mw_59 (by decide +kernel) (show decode cX10_clocks 38 = .ok (.new 85, 3) by decide +kernel) (show decode cX10_clocks 41 = .ok (.dup, 1) by decide +kernel) (show decode cX10_clocks 42 = .ok (.ldc_w 324, 3) by decide +kernel) (show decode cX10_clocks 45 = .ok (.invokespecial 89, 3) by decide +kernel) (show decode cX10_clocks 48 = .ok (.athrow, 1) by decide +kernel) (Nat.le_of_ble_eq_true rfl) (Nat.le_of_ble_eq_true rfl),
    mm_r_aload_n X (show decode cX10_clocks 49 = .ok (.aload_n 0, 1) by decide +kernel) rfl,
    mm_r_gfR X (ci := 10) (p := 7) (show mm_kd 10 7 = 2 by decide +kernel) rfl (Nat.le_of_ble_eq_true rfl) (show decode cX10_clocks 50 = .ok (.getfield 70, 3) by decide +kernel) mw_435 rfl,
    mm_r_gfI X (ci := 8) (p := 4) (show mm_kd 8 4 = 0 by decide +kernel) rfl (Nat.le_of_ble_eq_true rfl) (show decode cX10_clocks 53 = .ok (.getfield 326, 3) by decide +kernel) mw_389 rfl,
    mm_r_ne1 X (show decode cX10_clocks 56 = .ok (.ifCond .ne 21, 3) by decide +kernel) (by decide),
    mm_r_aload_n X (show decode cX10_clocks 59 = .ok (.aload_n 0, 1) by decide +kernel) rfl,
    mm_r_gfR X (ci := 10) (p := 1) (show mm_kd 10 1 = 2 by decide +kernel) rfl (Nat.le_of_ble_eq_true rfl) (show decode cX10_clocks 60 = .ok (.getfield 28, 3) by decide +kernel) mw_429 rfl,
    mm_r_gfI X (ci := 6) (p := 2) (show mm_kd 6 2 = 0 by decide +kernel) rfl (Nat.le_of_ble_eq_true rfl) (show decode cX10_clocks 63 = .ok (.getfield 144, 3) by decide +kernel) mw_171 rfl,
    mm_r_gt1 X (show decode cX10_clocks 66 = .ok (.ifCond .gt 11, 3) by decide +kernel) (by decide),
    mm_r_aload_n X (show decode cX10_clocks 69 = .ok (.aload_n 0, 1) by decide +kernel) rfl,
    mm_r_clV X hth (ci := 10) (na := 0) (sn_X10_winner hl) rfl (show decode cX10_clocks 70 = .ok (.invokevirtual 125, 3) by decide +kernel) mw_489 mw_486 mw_488 mw_9 mw_44 hd_X10_winner ⟨(Nat.le_of_ble_eq_true rfl), (Nat.le_of_ble_eq_true rfl)⟩,
    mm_r_iconst X (show decode cX10_clocks 73 = .ok (.iconst (-1), 1) by decide +kernel) rfl,
    mm_r_eq2 X (show decode cX10_clocks 74 = .ok (.if_icmp .eq 14, 3) by decide +kernel) (by decide),
    mm_r_thrW X htab (E := 3) (ik := 129) (is := 329) (ic := 133) (text := "it is too late for clocks") (by decide) rfl mm_aw3 mw_729 mw_62 (by decide +kernel) (show decode cX10_clocks 77 = .ok (.new 129, 3) by decide +kernel) (show decode cX10_clocks 80 = .ok (.dup, 1) by decide +kernel) (show decode cX10_clocks 81 = .ok (.ldc_w 329, 3) by decide +kernel) (show decode cX10_clocks 84 = .ok (.invokespecial 133, 3) by decide +kernel) (show decode cX10_clocks 87 = .ok (.athrow, 1) by decide +kernel) (Nat.le_of_ble_eq_true rfl) (Nat.le_of_ble_eq_true rfl),
    mm_r_aload_n X (show decode cX10_clocks 88 = .ok (.aload_n 0, 1) by decide +kernel) rfl,
    mm_r_gfR X (ci := 10) (p := 7) (show mm_kd 10 7 = 2 by decide +kernel) rfl (Nat.le_of_ble_eq_true rfl) (show decode cX10_clocks 89 = .ok (.getfield 70, 3) by decide +kernel) mw_435 rfl,
    mm_r_iload_n X (show decode cX10_clocks 92 = .ok (.iload_n 1, 1) by decide +kernel) rfl,
    mm_r_iload_n X (show decode cX10_clocks 93 = .ok (.iload_n 2, 1) by decide +kernel) rfl,
    mm_r_iload_n X (show decode cX10_clocks 94 = .ok (.iload_n 3, 1) by decide +kernel) rfl,
    mm_r_clV X hth (ci := 8) (na := 3) (sn_X8_start hl) rfl (show decode cX10_clocks 95 = .ok (.invokevirtual 331, 3) by decide +kernel) mw_719 mw_1044 mw_717 mw_718 mw_54 hd_X8_start ⟨(Nat.le_of_ble_eq_true rfl), (Nat.le_of_ble_eq_true rfl)⟩,
    mm_r_vret X hret (show decode cX10_clocks 98 = .ok (.return_, 1) by decide +kernel), trivial⟩
theorem sn_X10_clocks {l : Launch} (hl : l.stackTraces = false) : mm_Snd l yX10_clocks (.code yX10_clocks cX10_clocks 4 none) 6 90 f_X10_clocks := mm_met hl (plainFor_of_name (by decide +kernel)) (ok_X10_clocks hl)
/-! Linkcourt$Times.spend(II)V -/
noncomputable def tb_X8_spend : List (Nat × mm_I) := [(0, mm_ldI 1 1), (1, mm_clS 4 1 f_X10_isPlayer), (4, mm_eq1 15 7), (7, mm_ldR 8 0), (8, mm_gfI 11 8 3), (11, mm_k 12 (.int 1)), (12, mm_ge2 16 15), (15, mm_rtV), (16, mm_ldI 17 2), (17, mm_ldR 18 0), (18, mm_gfR 21 8 0), (21, mm_ldI 22 1), (22, mm_ald 23 0), (23, mm_clS 26 2 f_J9_min_7cf53), (26, mm_stI 27 3), (27, mm_ldR 28 0), (28, mm_gfR 31 8 2), (31, mm_ldI 32 1), (32, mm_ald 33 0), (33, mm_ldI 34 2), (34, mm_i2 35 (fun a b => a + b)), (35, mm_ldI 36 3), (36, mm_i2 37 (fun a b => a - b)), (37, mm_stI 39 4), (39, mm_ldR 40 0), (40, mm_gfR 43 8 1), (43, mm_ldI 44 1), (44, mm_ald 45 0), (45, mm_ldI 47 4), (47, mm_ldR 48 0), (48, mm_gfI 51 8 3), (51, mm_i3 52 (fun a b => a / b)), (52, mm_clS 55 2 f_J9_min_7cf53), (55, mm_stI 57 5), (57, mm_ldR 58 0), (58, mm_gfR 61 8 0), (61, mm_ldI 62 1), (62, mm_dup2 63), (63, mm_ald 64 0), (64, mm_ldI 65 3), (65, mm_i2 66 (fun a b => a - b)), (66, mm_ast 67 0 (fun v => v)), (67, mm_ldR 68 0), (68, mm_gfR 71 8 1), (71, mm_ldI 72 1), (72, mm_dup2 73), (73, mm_ald 74 0), (74, mm_ldI 76 5), (76, mm_i2 77 (fun a b => a - b)), (77, mm_ast 78 0 (fun v => v)), (78, mm_ldR 79 0), (79, mm_gfR 82 8 2), (82, mm_ldI 83 1), (83, mm_ldI 85 4), (85, mm_ldI 87 5), (87, mm_ldR 88 0), (88, mm_gfI 91 8 3), (91, mm_i2 92 (fun a b => a * b)), (92, mm_i2 93 (fun a b => a - b)), (93, mm_ast 94 0 (fun v => v)), (94, mm_ldR 95 0), (95, mm_gfR 98 8 1), (98, mm_ldI 99 1), (99, mm_ald 100 0), (100, mm_ne1 113 103), (103, mm_ldI 105 4), (105, mm_le1 113 108), (108, mm_ldR 109 0), (109, mm_ldI 110 1), (110, mm_pfI 113 8 5), (113, mm_rtV)]
noncomputable def f_X8_spend : mm_F := mm_do (mm_pr tb_X8_spend) 6
theorem mn_X8_spend : mm_alln tb_X8_spend := ⟨mm_n_ldI _ _, mm_n_clS _ _ (mo_X10_isPlayer), mm_n_eq1 _ _, mm_n_ldR _ _, mm_n_gfI _ _ _, mm_n_k _ _, mm_n_ge2 _ _, mm_n_rtV, mm_n_ldI _ _, mm_n_ldR _ _, mm_n_gfR _ _ _, mm_n_ldI _ _, mm_n_ald _ _, mm_n_clS _ _ (mo_J9_min_7cf53), mm_n_stI _ _, mm_n_ldR _ _, mm_n_gfR _ _ _, mm_n_ldI _ _, mm_n_ald _ _, mm_n_ldI _ _, mm_n_i2 _ _, mm_n_ldI _ _, mm_n_i2 _ _, mm_n_stI _ _, mm_n_ldR _ _, mm_n_gfR _ _ _, mm_n_ldI _ _, mm_n_ald _ _, mm_n_ldI _ _, mm_n_ldR _ _, mm_n_gfI _ _ _, mm_n_i3 _ _, mm_n_clS _ _ (mo_J9_min_7cf53), mm_n_stI _ _, mm_n_ldR _ _, mm_n_gfR _ _ _, mm_n_ldI _ _, mm_n_dup2 _, mm_n_ald _ _, mm_n_ldI _ _, mm_n_i2 _ _, mm_n_ast _ _ _, mm_n_ldR _ _, mm_n_gfR _ _ _, mm_n_ldI _ _, mm_n_dup2 _, mm_n_ald _ _, mm_n_ldI _ _, mm_n_i2 _ _, mm_n_ast _ _ _, mm_n_ldR _ _, mm_n_gfR _ _ _, mm_n_ldI _ _, mm_n_ldI _ _, mm_n_ldI _ _, mm_n_ldR _ _, mm_n_gfI _ _ _, mm_n_i2 _ _, mm_n_i2 _ _, mm_n_ast _ _ _, mm_n_ldR _ _, mm_n_gfR _ _ _, mm_n_ldI _ _, mm_n_ald _ _, mm_n_ne1 _ _, mm_n_ldI _ _, mm_n_le1 _ _, mm_n_ldR _ _, mm_n_ldI _ _, mm_n_pfI _ _ _, mm_n_rtV, trivial⟩
theorem mo_X8_spend : mm_Mo f_X8_spend := mm_do_mo (mm_alln_mem mn_X8_spend)
set_option maxRecDepth 10000 in
theorem ok_X8_spend {l : Launch} (hl : l.stackTraces = false) : mm_Ok l yX8_spend cX8_spend 6 none 2 41 tb_X8_spend := by
  refine ⟨mm_alln_mem mn_X8_spend, fun p e cells slots s m args below meth c D tc A S ad Tg X hret hname htab hth => mm_allr_mem ?_⟩
  exact ⟨mm_r_iload_n X (show decode cX8_spend 0 = .ok (.iload_n 1, 1) by decide +kernel) rfl,
    mm_r_clSN X hth (na := 1) (sn_X10_isPlayer hl) (show decode cX8_spend 1 = .ok (.invokestatic 42, 3) by decide +kernel) mw_621 (show ("Linkcourt$Times", 42, yX10_isPlayer) ∈ mm_nest by decide +kernel) mw_620 mw_44 hd_X10_isPlayer.2 ⟨(Nat.le_of_ble_eq_true rfl), (Nat.le_of_ble_eq_true rfl)⟩,
    mm_r_eq1 X (show decode cX8_spend 4 = .ok (.ifCond .eq 11, 3) by decide +kernel) (by decide),
    mm_r_aload_n X (show decode cX8_spend 7 = .ok (.aload_n 0, 1) by decide +kernel) rfl,
    mm_r_gfI X (ci := 8) (p := 3) (show mm_kd 8 3 = 0 by decide +kernel) rfl (Nat.le_of_ble_eq_true rfl) (show decode cX8_spend 8 = .ok (.getfield 39, 3) by decide +kernel) mw_387 rfl,
    mm_r_iconst X (show decode cX8_spend 11 = .ok (.iconst 1, 1) by decide +kernel) rfl,
    mm_r_ge2 X (show decode cX8_spend 12 = .ok (.if_icmp .ge 4, 3) by decide +kernel) (by decide),
    mm_r_vret X hret (show decode cX8_spend 15 = .ok (.return_, 1) by decide +kernel),
    mm_r_iload_n X (show decode cX8_spend 16 = .ok (.iload_n 2, 1) by decide +kernel) rfl,
    mm_r_aload_n X (show decode cX8_spend 17 = .ok (.aload_n 0, 1) by decide +kernel) rfl,
    mm_r_gfR X (ci := 8) (p := 0) (show mm_kd 8 0 = 2 by decide +kernel) rfl (Nat.le_of_ble_eq_true rfl) (show decode cX8_spend 18 = .ok (.getfield 9, 3) by decide +kernel) mw_384 rfl,
    mm_r_iload_n X (show decode cX8_spend 21 = .ok (.iload_n 1, 1) by decide +kernel) rfl,
    mm_r_iald X (show decode cX8_spend 22 = .ok (.iaload, 1) by decide +kernel),
    mm_r_clS X hth (na := 2) (sn_J9_min_7cf53 hl) (show decode cX8_spend 23 = .ok (.invokestatic 46, 3) by decide +kernel) mw_969 mw_1055 mw_968 mw_63 hd_J9_min_7cf53.2 ⟨(Nat.le_of_ble_eq_true rfl), (Nat.le_of_ble_eq_true rfl)⟩,
    mm_r_istore_n X (show decode cX8_spend 26 = .ok (.istore_n 3, 1) by decide +kernel) rfl (Nat.le_of_ble_eq_true rfl),
    mm_r_aload_n X (show decode cX8_spend 27 = .ok (.aload_n 0, 1) by decide +kernel) rfl,
    mm_r_gfR X (ci := 8) (p := 2) (show mm_kd 8 2 = 2 by decide +kernel) rfl (Nat.le_of_ble_eq_true rfl) (show decode cX8_spend 28 = .ok (.getfield 18, 3) by decide +kernel) mw_386 rfl,
    mm_r_iload_n X (show decode cX8_spend 31 = .ok (.iload_n 1, 1) by decide +kernel) rfl,
    mm_r_iald X (show decode cX8_spend 32 = .ok (.iaload, 1) by decide +kernel),
    mm_r_iload_n X (show decode cX8_spend 33 = .ok (.iload_n 2, 1) by decide +kernel) rfl,
    mm_r_iadd X (show decode cX8_spend 34 = .ok (.iadd, 1) by decide +kernel),
    mm_r_iload_n X (show decode cX8_spend 35 = .ok (.iload_n 3, 1) by decide +kernel) rfl,
    mm_r_isub X (show decode cX8_spend 36 = .ok (.isub, 1) by decide +kernel),
    mm_r_istore X (show decode cX8_spend 37 = .ok (.istore 4, 2) by decide +kernel) (Nat.le_of_ble_eq_true rfl),
    mm_r_aload_n X (show decode cX8_spend 39 = .ok (.aload_n 0, 1) by decide +kernel) rfl,
    mm_r_gfR X (ci := 8) (p := 1) (show mm_kd 8 1 = 2 by decide +kernel) rfl (Nat.le_of_ble_eq_true rfl) (show decode cX8_spend 40 = .ok (.getfield 15, 3) by decide +kernel) mw_385 rfl,
    mm_r_iload_n X (show decode cX8_spend 43 = .ok (.iload_n 1, 1) by decide +kernel) rfl,
    mm_r_iald X (show decode cX8_spend 44 = .ok (.iaload, 1) by decide +kernel),
    mm_r_iload X (show decode cX8_spend 45 = .ok (.iload 4, 2) by decide +kernel),
    mm_r_aload_n X (show decode cX8_spend 47 = .ok (.aload_n 0, 1) by decide +kernel) rfl,
    mm_r_gfI X (ci := 8) (p := 3) (show mm_kd 8 3 = 0 by decide +kernel) rfl (Nat.le_of_ble_eq_true rfl) (show decode cX8_spend 48 = .ok (.getfield 39, 3) by decide +kernel) mw_387 rfl,
    mm_r_idiv X (show decode cX8_spend 51 = .ok (.idiv, 1) by decide +kernel),
    mm_r_clS X hth (na := 2) (sn_J9_min_7cf53 hl) (show decode cX8_spend 52 = .ok (.invokestatic 46, 3) by decide +kernel) mw_969 mw_1055 mw_968 mw_63 hd_J9_min_7cf53.2 ⟨(Nat.le_of_ble_eq_true rfl), (Nat.le_of_ble_eq_true rfl)⟩,
    mm_r_istore X (show decode cX8_spend 55 = .ok (.istore 5, 2) by decide +kernel) (Nat.le_of_ble_eq_true rfl),
    mm_r_aload_n X (show decode cX8_spend 57 = .ok (.aload_n 0, 1) by decide +kernel) rfl,
    mm_r_gfR X (ci := 8) (p := 0) (show mm_kd 8 0 = 2 by decide +kernel) rfl (Nat.le_of_ble_eq_true rfl) (show decode cX8_spend 58 = .ok (.getfield 9, 3) by decide +kernel) mw_384 rfl,
    mm_r_iload_n X (show decode cX8_spend 61 = .ok (.iload_n 1, 1) by decide +kernel) rfl,
    mm_r_dup2 X (show decode cX8_spend 62 = .ok (.dup2, 1) by decide +kernel),
    mm_r_iald X (show decode cX8_spend 63 = .ok (.iaload, 1) by decide +kernel),
    mm_r_iload_n X (show decode cX8_spend 64 = .ok (.iload_n 3, 1) by decide +kernel) rfl,
    mm_r_isub X (show decode cX8_spend 65 = .ok (.isub, 1) by decide +kernel),
    mm_r_iast X (show decode cX8_spend 66 = .ok (.iastore, 1) by decide +kernel),
    mm_r_aload_n X (show decode cX8_spend 67 = .ok (.aload_n 0, 1) by decide +kernel) rfl,
    mm_r_gfR X (ci := 8) (p := 1) (show mm_kd 8 1 = 2 by decide +kernel) rfl (Nat.le_of_ble_eq_true rfl) (show decode cX8_spend 68 = .ok (.getfield 15, 3) by decide +kernel) mw_385 rfl,
    mm_r_iload_n X (show decode cX8_spend 71 = .ok (.iload_n 1, 1) by decide +kernel) rfl,
    mm_r_dup2 X (show decode cX8_spend 72 = .ok (.dup2, 1) by decide +kernel),
    mm_r_iald X (show decode cX8_spend 73 = .ok (.iaload, 1) by decide +kernel),
    mm_r_iload X (show decode cX8_spend 74 = .ok (.iload 5, 2) by decide +kernel),
    mm_r_isub X (show decode cX8_spend 76 = .ok (.isub, 1) by decide +kernel),
    mm_r_iast X (show decode cX8_spend 77 = .ok (.iastore, 1) by decide +kernel),
    mm_r_aload_n X (show decode cX8_spend 78 = .ok (.aload_n 0, 1) by decide +kernel) rfl,
    mm_r_gfR X (ci := 8) (p := 2) (show mm_kd 8 2 = 2 by decide +kernel) rfl (Nat.le_of_ble_eq_true rfl) (show decode cX8_spend 79 = .ok (.getfield 18, 3) by decide +kernel) mw_386 rfl,
    mm_r_iload_n X (show decode cX8_spend 82 = .ok (.iload_n 1, 1) by decide +kernel) rfl,
    mm_r_iload X (show decode cX8_spend 83 = .ok (.iload 4, 2) by decide +kernel),
    mm_r_iload X (show decode cX8_spend 85 = .ok (.iload 5, 2) by decide +kernel),
    mm_r_aload_n X (show decode cX8_spend 87 = .ok (.aload_n 0, 1) by decide +kernel) rfl,
    mm_r_gfI X (ci := 8) (p := 3) (show mm_kd 8 3 = 0 by decide +kernel) rfl (Nat.le_of_ble_eq_true rfl) (show decode cX8_spend 88 = .ok (.getfield 39, 3) by decide +kernel) mw_387 rfl,
    mm_r_imul X (show decode cX8_spend 91 = .ok (.imul, 1) by decide +kernel),
    mm_r_isub X (show decode cX8_spend 92 = .ok (.isub, 1) by decide +kernel),
    mm_r_iast X (show decode cX8_spend 93 = .ok (.iastore, 1) by decide +kernel),
    mm_r_aload_n X (show decode cX8_spend 94 = .ok (.aload_n 0, 1) by decide +kernel) rfl,
    mm_r_gfR X (ci := 8) (p := 1) (show mm_kd 8 1 = 2 by decide +kernel) rfl (Nat.le_of_ble_eq_true rfl) (show decode cX8_spend 95 = .ok (.getfield 15, 3) by decide +kernel) mw_385 rfl,
    mm_r_iload_n X (show decode cX8_spend 98 = .ok (.iload_n 1, 1) by decide +kernel) rfl,
    mm_r_iald X (show decode cX8_spend 99 = .ok (.iaload, 1) by decide +kernel),
    mm_r_ne1 X (show decode cX8_spend 100 = .ok (.ifCond .ne 13, 3) by decide +kernel) (by decide),
    mm_r_iload X (show decode cX8_spend 103 = .ok (.iload 4, 2) by decide +kernel),
    mm_r_le1 X (show decode cX8_spend 105 = .ok (.ifCond .le 8, 3) by decide +kernel) (by decide),
    mm_r_aload_n X (show decode cX8_spend 108 = .ok (.aload_n 0, 1) by decide +kernel) rfl,
    mm_r_iload_n X (show decode cX8_spend 109 = .ok (.iload_n 1, 1) by decide +kernel) rfl,
    mm_r_pfI X (ci := 8) (p := 5) (show mm_kd 8 5 = 0 by decide +kernel) rfl rfl (Nat.le_of_ble_eq_true rfl) (show decode cX8_spend 110 = .ok (.putfield 21, 3) by decide +kernel) mw_390 rfl rfl,
    mm_r_vret X hret (show decode cX8_spend 113 = .ok (.return_, 1) by decide +kernel), trivial⟩
theorem sn_X8_spend {l : Launch} (hl : l.stackTraces = false) : mm_Snd l yX8_spend (.code yX8_spend cX8_spend 6 none) 2 41 f_X8_spend := mm_met hl (plainFor_of_name (by decide +kernel)) (ok_X8_spend hl)
/-! Linkcourt.think(I)I -/
noncomputable def tb_X10_think : List (Nat × mm_I) := [(0, mm_ldI 1 1), (1, mm_k 2 (.int 1)), (2, mm_lt2 12 5), (5, mm_ldI 6 1), (6, mm_k 9 (.int 600)), (9, mm_le2 23 12), (12, mm_thr 2), (23, mm_ldR 24 0), (24, mm_gfR 27 10 7), (27, mm_gfI 30 8 4), (30, mm_eq1 41 33), (33, mm_ldR 34 0), (34, mm_clV 37 10 0 f_X10_winner), (37, mm_k 38 (.int (-1))), (38, mm_eq2 52 41), (41, mm_thr 3), (52, mm_ldR 53 0), (53, mm_gfR 56 10 7), (56, mm_ldR 57 0), (57, mm_gfR 60 10 1), (60, mm_clV 63 6 0 f_X6_mover), (63, mm_ldI 64 1), (64, mm_clV 67 8 2 f_X8_spend), (67, mm_ldR 68 0), (68, mm_clV 71 10 0 f_X10_winner), (71, mm_rtI)]
noncomputable def f_X10_think : mm_F := mm_do (mm_pr tb_X10_think) 2
theorem mn_X10_think : mm_alln tb_X10_think := ⟨mm_n_ldI _ _, mm_n_k _ _, mm_n_lt2 _ _, mm_n_ldI _ _, mm_n_k _ _, mm_n_le2 _ _, mm_n_thr _, mm_n_ldR _ _, mm_n_gfR _ _ _, mm_n_gfI _ _ _, mm_n_eq1 _ _, mm_n_ldR _ _, mm_n_clV _ _ _ (mo_X10_winner), mm_n_k _ _, mm_n_eq2 _ _, mm_n_thr _, mm_n_ldR _ _, mm_n_gfR _ _ _, mm_n_ldR _ _, mm_n_gfR _ _ _, mm_n_clV _ _ _ (mo_X6_mover), mm_n_ldI _ _, mm_n_clV _ _ _ (mo_X8_spend), mm_n_ldR _ _, mm_n_clV _ _ _ (mo_X10_winner), mm_n_rtI, trivial⟩
theorem mo_X10_think : mm_Mo f_X10_think := mm_do_mo (mm_alln_mem mn_X10_think)
set_option maxRecDepth 10000 in
theorem ok_X10_think {l : Launch} (hl : l.stackTraces = false) : mm_Ok l yX10_think cX10_think 2 (some .int) 6 90 tb_X10_think := by
  refine ⟨mm_alln_mem mn_X10_think, fun p e cells slots s m args below meth c D tc A S ad Tg X hret hname htab hth => mm_allr_mem ?_⟩
  exact ⟨mm_r_iload_n X (show decode cX10_think 0 = .ok (.iload_n 1, 1) by decide +kernel) rfl,
    mm_r_iconst X (show decode cX10_think 1 = .ok (.iconst 1, 1) by decide +kernel) rfl,
    mm_r_lt2 X (show decode cX10_think 2 = .ok (.if_icmp .lt 10, 3) by decide +kernel) (by decide),
    mm_r_iload_n X (show decode cX10_think 5 = .ok (.iload_n 1, 1) by decide +kernel) rfl,
    mm_r_sipush X (show decode cX10_think 6 = .ok (.sipush 600, 3) by decide +kernel) rfl,
    mm_r_le2 X (show decode cX10_think 9 = .ok (.if_icmp .le 14, 3) by decide +kernel) (by decide),
    mm_r_thrW X htab (E := 2) (ik := 85) (is := 334) (ic := 89) (text := "seconds is out of range") (by decide) rfl mm_aw2 mw_494 mw_59 (by decide +kernel) (show decode cX10_think 12 = .ok (.new 85, 3) by decide +kernel) (show decode cX10_think 15 = .ok (.dup, 1) by decide +kernel) (show decode cX10_think 16 = .ok (.ldc_w 334, 3) by decide +kernel) (show decode cX10_think 19 = .ok (.invokespecial 89, 3) by decide +kernel) (show decode cX10_think 22 = .ok (.athrow, 1) by decide +kernel) (Nat.le_of_ble_eq_true rfl) (Nat.le_of_ble_eq_true rfl),
    mm_r_aload_n X (show decode cX10_think 23 = .ok (.aload_n 0, 1) by decide +kernel) rfl,
    mm_r_gfR X (ci := 10) (p := 7) (show mm_kd 10 7 = 2 by decide +kernel) rfl (Nat.le_of_ble_eq_true rfl) (show decode cX10_think 24 = .ok (.getfield 70, 3) by decide +kernel) mw_435 rfl,
    mm_r_gfI X (ci := 8) (p := 4) (show mm_kd 8 4 = 0 by decide +kernel) rfl (Nat.le_of_ble_eq_true rfl) (show decode cX10_think 27 = .ok (.getfield 326, 3) by decide +kernel) mw_389 rfl,
    mm_r_eq1 X (show decode cX10_think 30 = .ok (.ifCond .eq 11, 3) by decide +kernel) (by decide),
    mm_r_aload_n X (show decode cX10_think 33 = .ok (.aload_n 0, 1) by decide +kernel) rfl,
    mm_r_clV X hth (ci := 10) (na := 0) (sn_X10_winner hl) rfl (show decode cX10_think 34 = .ok (.invokevirtual 125, 3) by decide +kernel) mw_489 mw_486 mw_488 mw_9 mw_44 hd_X10_winner ⟨(Nat.le_of_ble_eq_true rfl), (Nat.le_of_ble_eq_true rfl)⟩,
    mm_r_iconst X (show decode cX10_think 37 = .ok (.iconst (-1), 1) by decide +kernel) rfl,
    mm_r_eq2 X (show decode cX10_think 38 = .ok (.if_icmp .eq 14, 3) by decide +kernel) (by decide),
    mm_r_thrW X htab (E := 3) (ik := 129) (is := 336) (ic := 133) (text := "no clock ticks") (by decide) rfl mm_aw3 mw_729 mw_62 (by decide +kernel) (show decode cX10_think 41 = .ok (.new 129, 3) by decide +kernel) (show decode cX10_think 44 = .ok (.dup, 1) by decide +kernel) (show decode cX10_think 45 = .ok (.ldc_w 336, 3) by decide +kernel) (show decode cX10_think 48 = .ok (.invokespecial 133, 3) by decide +kernel) (show decode cX10_think 51 = .ok (.athrow, 1) by decide +kernel) (Nat.le_of_ble_eq_true rfl) (Nat.le_of_ble_eq_true rfl),
    mm_r_aload_n X (show decode cX10_think 52 = .ok (.aload_n 0, 1) by decide +kernel) rfl,
    mm_r_gfR X (ci := 10) (p := 7) (show mm_kd 10 7 = 2 by decide +kernel) rfl (Nat.le_of_ble_eq_true rfl) (show decode cX10_think 53 = .ok (.getfield 70, 3) by decide +kernel) mw_435 rfl,
    mm_r_aload_n X (show decode cX10_think 56 = .ok (.aload_n 0, 1) by decide +kernel) rfl,
    mm_r_gfR X (ci := 10) (p := 1) (show mm_kd 10 1 = 2 by decide +kernel) rfl (Nat.le_of_ble_eq_true rfl) (show decode cX10_think 57 = .ok (.getfield 28, 3) by decide +kernel) mw_429 rfl,
    mm_r_clV X hth (ci := 6) (na := 0) (sn_X6_mover hl) rfl (show decode cX10_think 60 = .ok (.invokevirtual 134, 3) by decide +kernel) mw_479 mw_476 mw_477 mw_478 mw_46 hd_X6_mover ⟨(Nat.le_of_ble_eq_true rfl), (Nat.le_of_ble_eq_true rfl)⟩,
    mm_r_iload_n X (show decode cX10_think 63 = .ok (.iload_n 1, 1) by decide +kernel) rfl,
    mm_r_clV X hth (ci := 8) (na := 2) (sn_X8_spend hl) rfl (show decode cX10_think 64 = .ok (.invokevirtual 338, 3) by decide +kernel) mw_1054 mw_1051 mw_1052 mw_1053 mw_54 hd_X8_spend ⟨(Nat.le_of_ble_eq_true rfl), (Nat.le_of_ble_eq_true rfl)⟩,
    mm_r_aload_n X (show decode cX10_think 67 = .ok (.aload_n 0, 1) by decide +kernel) rfl,
    mm_r_clV X hth (ci := 10) (na := 0) (sn_X10_winner hl) rfl (show decode cX10_think 68 = .ok (.invokevirtual 125, 3) by decide +kernel) mw_489 mw_486 mw_488 mw_9 mw_44 hd_X10_winner ⟨(Nat.le_of_ble_eq_true rfl), (Nat.le_of_ble_eq_true rfl)⟩,
    mm_r_iret X hret (show decode cX10_think 71 = .ok (.ireturn, 1) by decide +kernel), trivial⟩
theorem sn_X10_think {l : Launch} (hl : l.stackTraces = false) : mm_Snd l yX10_think (.code yX10_think cX10_think 2 (some .int)) 6 90 f_X10_think := mm_met hl (plainFor_of_name (by decide +kernel)) (ok_X10_think hl)
/-! Linkcourt$Times.shown(II)I -/
noncomputable def tb_X8_shown : List (Nat × mm_I) := [(0, mm_ldI 1 1), (1, mm_clS 4 1 f_X10_isPlayer), (4, mm_ne1 9 7), (7, mm_k 8 (.int 0)), (8, mm_rtI), (9, mm_ldI 10 2), (10, mm_ne1 22 13), (13, mm_ldR 14 0), (14, mm_gfR 17 8 0), (17, mm_ldI 18 1), (18, mm_ald 19 0), (19, mm_go 42), (22, mm_ldI 23 2), (23, mm_k 24 (.int 1)), (24, mm_ne2 36 27), (27, mm_ldR 28 0), (28, mm_gfR 31 8 1), (31, mm_ldI 32 1), (32, mm_ald 33 0), (33, mm_go 42), (36, mm_ldR 37 0), (37, mm_gfR 40 8 2), (40, mm_ldI 41 1), (41, mm_ald 42 0), (42, mm_rtI)]
noncomputable def f_X8_shown : mm_F := mm_do (mm_pr tb_X8_shown) 3
theorem mn_X8_shown : mm_alln tb_X8_shown := ⟨mm_n_ldI _ _, mm_n_clS _ _ (mo_X10_isPlayer), mm_n_ne1 _ _, mm_n_k _ _, mm_n_rtI, mm_n_ldI _ _, mm_n_ne1 _ _, mm_n_ldR _ _, mm_n_gfR _ _ _, mm_n_ldI _ _, mm_n_ald _ _, mm_n_go _, mm_n_ldI _ _, mm_n_k _ _, mm_n_ne2 _ _, mm_n_ldR _ _, mm_n_gfR _ _ _, mm_n_ldI _ _, mm_n_ald _ _, mm_n_go _, mm_n_ldR _ _, mm_n_gfR _ _ _, mm_n_ldI _ _, mm_n_ald _ _, mm_n_rtI, trivial⟩
theorem mo_X8_shown : mm_Mo f_X8_shown := mm_do_mo (mm_alln_mem mn_X8_shown)
set_option maxRecDepth 10000 in
theorem ok_X8_shown {l : Launch} (hl : l.stackTraces = false) : mm_Ok l yX8_shown cX8_shown 3 (some .int) 2 40 tb_X8_shown := by
  refine ⟨mm_alln_mem mn_X8_shown, fun p e cells slots s m args below meth c D tc A S ad Tg X hret hname htab hth => mm_allr_mem ?_⟩
  exact ⟨mm_r_iload_n X (show decode cX8_shown 0 = .ok (.iload_n 1, 1) by decide +kernel) rfl,
    mm_r_clSN X hth (na := 1) (sn_X10_isPlayer hl) (show decode cX8_shown 1 = .ok (.invokestatic 42, 3) by decide +kernel) mw_621 (show ("Linkcourt$Times", 42, yX10_isPlayer) ∈ mm_nest by decide +kernel) mw_620 mw_44 hd_X10_isPlayer.2 ⟨(Nat.le_of_ble_eq_true rfl), (Nat.le_of_ble_eq_true rfl)⟩,
    mm_r_ne1 X (show decode cX8_shown 4 = .ok (.ifCond .ne 5, 3) by decide +kernel) (by decide),
    mm_r_iconst X (show decode cX8_shown 7 = .ok (.iconst 0, 1) by decide +kernel) rfl,
    mm_r_iret X hret (show decode cX8_shown 8 = .ok (.ireturn, 1) by decide +kernel),
    mm_r_iload_n X (show decode cX8_shown 9 = .ok (.iload_n 2, 1) by decide +kernel) rfl,
    mm_r_ne1 X (show decode cX8_shown 10 = .ok (.ifCond .ne 12, 3) by decide +kernel) (by decide),
    mm_r_aload_n X (show decode cX8_shown 13 = .ok (.aload_n 0, 1) by decide +kernel) rfl,
    mm_r_gfR X (ci := 8) (p := 0) (show mm_kd 8 0 = 2 by decide +kernel) rfl (Nat.le_of_ble_eq_true rfl) (show decode cX8_shown 14 = .ok (.getfield 9, 3) by decide +kernel) mw_384 rfl,
    mm_r_iload_n X (show decode cX8_shown 17 = .ok (.iload_n 1, 1) by decide +kernel) rfl,
    mm_r_iald X (show decode cX8_shown 18 = .ok (.iaload, 1) by decide +kernel),
    mm_r_goto X (show decode cX8_shown 19 = .ok (.goto 23, 3) by decide +kernel) (by decide),
    mm_r_iload_n X (show decode cX8_shown 22 = .ok (.iload_n 2, 1) by decide +kernel) rfl,
    mm_r_iconst X (show decode cX8_shown 23 = .ok (.iconst 1, 1) by decide +kernel) rfl,
    mm_r_ne2 X (show decode cX8_shown 24 = .ok (.if_icmp .ne 12, 3) by decide +kernel) (by decide),
    mm_r_aload_n X (show decode cX8_shown 27 = .ok (.aload_n 0, 1) by decide +kernel) rfl,
    mm_r_gfR X (ci := 8) (p := 1) (show mm_kd 8 1 = 2 by decide +kernel) rfl (Nat.le_of_ble_eq_true rfl) (show decode cX8_shown 28 = .ok (.getfield 15, 3) by decide +kernel) mw_385 rfl,
    mm_r_iload_n X (show decode cX8_shown 31 = .ok (.iload_n 1, 1) by decide +kernel) rfl,
    mm_r_iald X (show decode cX8_shown 32 = .ok (.iaload, 1) by decide +kernel),
    mm_r_goto X (show decode cX8_shown 33 = .ok (.goto 9, 3) by decide +kernel) (by decide),
    mm_r_aload_n X (show decode cX8_shown 36 = .ok (.aload_n 0, 1) by decide +kernel) rfl,
    mm_r_gfR X (ci := 8) (p := 2) (show mm_kd 8 2 = 2 by decide +kernel) rfl (Nat.le_of_ble_eq_true rfl) (show decode cX8_shown 37 = .ok (.getfield 18, 3) by decide +kernel) mw_386 rfl,
    mm_r_iload_n X (show decode cX8_shown 40 = .ok (.iload_n 1, 1) by decide +kernel) rfl,
    mm_r_iald X (show decode cX8_shown 41 = .ok (.iaload, 1) by decide +kernel),
    mm_r_iret X hret (show decode cX8_shown 42 = .ok (.ireturn, 1) by decide +kernel), trivial⟩
theorem sn_X8_shown {l : Launch} (hl : l.stackTraces = false) : mm_Snd l yX8_shown (.code yX8_shown cX8_shown 3 (some .int)) 2 40 f_X8_shown := mm_met hl (plainFor_of_name (by decide +kernel)) (ok_X8_shown hl)
/-! Linkcourt.clock(II)I -/
noncomputable def tb_X10_clock : List (Nat × mm_I) := [(0, mm_ldI 1 1), (1, mm_clS 4 1 f_X10_isPlayer), (4, mm_ne1 18 7), (7, mm_thr 1), (18, mm_ldI 19 2), (19, mm_lt1 27 22), (22, mm_ldI 23 2), (23, mm_k 24 (.int 2)), (24, mm_le2 37 27), (27, mm_thr 2), (37, mm_ldR 38 0), (38, mm_gfR 41 10 7), (41, mm_ldI 42 1), (42, mm_ldI 43 2), (43, mm_clV 46 8 2 f_X8_shown), (46, mm_rtI)]
noncomputable def f_X10_clock : mm_F := mm_do (mm_pr tb_X10_clock) 3
theorem mn_X10_clock : mm_alln tb_X10_clock := ⟨mm_n_ldI _ _, mm_n_clS _ _ (mo_X10_isPlayer), mm_n_ne1 _ _, mm_n_thr _, mm_n_ldI _ _, mm_n_lt1 _ _, mm_n_ldI _ _, mm_n_k _ _, mm_n_le2 _ _, mm_n_thr _, mm_n_ldR _ _, mm_n_gfR _ _ _, mm_n_ldI _ _, mm_n_ldI _ _, mm_n_clV _ _ _ (mo_X8_shown), mm_n_rtI, trivial⟩
theorem mo_X10_clock : mm_Mo f_X10_clock := mm_do_mo (mm_alln_mem mn_X10_clock)
set_option maxRecDepth 10000 in
theorem ok_X10_clock {l : Launch} (hl : l.stackTraces = false) : mm_Ok l yX10_clock cX10_clock 3 (some .int) 6 90 tb_X10_clock := by
  refine ⟨mm_alln_mem mn_X10_clock, fun p e cells slots s m args below meth c D tc A S ad Tg X hret hname htab hth => mm_allr_mem ?_⟩
  exact ⟨mm_r_iload_n X (show decode cX10_clock 0 = .ok (.iload_n 1, 1) by decide +kernel) rfl,
    mm_r_clS X hth (na := 1) (sn_X10_isPlayer hl) (show decode cX10_clock 1 = .ok (.invokestatic 257, 3) by decide +kernel) mw_621 mw_619 mw_620 mw_44 hd_X10_isPlayer.2 ⟨(Nat.le_of_ble_eq_true rfl), (Nat.le_of_ble_eq_true rfl)⟩,
    mm_r_ne1 X (show decode cX10_clock 4 = .ok (.ifCond .ne 14, 3) by decide +kernel) (by decide),
    mm_r_thrW X htab (E := 1) (ik := 110) (is := 260) (ic := 114) (text := "there is no such player") (by decide) rfl mm_aw1 mw_569 mw_60 (by decide +kernel) (show decode cX10_clock 7 = .ok (.new 110, 3) by decide +kernel) (show decode cX10_clock 10 = .ok (.dup, 1) by decide +kernel) (show decode cX10_clock 11 = .ok (.ldc_w 260, 3) by decide +kernel) (show decode cX10_clock 14 = .ok (.invokespecial 114, 3) by decide +kernel) (show decode cX10_clock 17 = .ok (.athrow, 1) by decide +kernel) (Nat.le_of_ble_eq_true rfl) (Nat.le_of_ble_eq_true rfl),
    mm_r_iload_n X (show decode cX10_clock 18 = .ok (.iload_n 2, 1) by decide +kernel) rfl,
    mm_r_lt1 X (show decode cX10_clock 19 = .ok (.ifCond .lt 8, 3) by decide +kernel) (by decide),
    mm_r_iload_n X (show decode cX10_clock 22 = .ok (.iload_n 2, 1) by decide +kernel) rfl,
    mm_r_iconst X (show decode cX10_clock 23 = .ok (.iconst 2, 1) by decide +kernel) rfl,
    mm_r_le2 X (show decode cX10_clock 24 = .ok (.if_icmp .le 13, 3) by decide +kernel) (by decide),
    mm_r_thr X htab (E := 2) (ik := 85) (is := 179) (ic := 89) (text := "what is out of range") (by decide) rfl mm_aw2 mw_494 mw_59 (by decide +kernel) (show decode cX10_clock 27 = .ok (.new 85, 3) by decide +kernel) (show decode cX10_clock 30 = .ok (.dup, 1) by decide +kernel) (show decode cX10_clock 31 = .ok (.ldc 179, 2) by decide +kernel) (show decode cX10_clock 33 = .ok (.invokespecial 89, 3) by decide +kernel) (show decode cX10_clock 36 = .ok (.athrow, 1) by decide +kernel) (Nat.le_of_ble_eq_true rfl) (Nat.le_of_ble_eq_true rfl),
    mm_r_aload_n X (show decode cX10_clock 37 = .ok (.aload_n 0, 1) by decide +kernel) rfl,
    mm_r_gfR X (ci := 10) (p := 7) (show mm_kd 10 7 = 2 by decide +kernel) rfl (Nat.le_of_ble_eq_true rfl) (show decode cX10_clock 38 = .ok (.getfield 70, 3) by decide +kernel) mw_435 rfl,
    mm_r_iload_n X (show decode cX10_clock 41 = .ok (.iload_n 1, 1) by decide +kernel) rfl,
    mm_r_iload_n X (show decode cX10_clock 42 = .ok (.iload_n 2, 1) by decide +kernel) rfl,
    mm_r_clV X hth (ci := 8) (na := 2) (sn_X8_shown hl) rfl (show decode cX10_clock 43 = .ok (.invokevirtual 342, 3) by decide +kernel) mw_672 mw_669 mw_670 mw_671 mw_54 hd_X8_shown ⟨(Nat.le_of_ble_eq_true rfl), (Nat.le_of_ble_eq_true rfl)⟩,
    mm_r_iret X hret (show decode cX10_clock 46 = .ok (.ireturn, 1) by decide +kernel), trivial⟩
theorem sn_X10_clock {l : Launch} (hl : l.stackTraces = false) : mm_Snd l yX10_clock (.code yX10_clock cX10_clock 3 (some .int)) 6 90 f_X10_clock := mm_met hl (plainFor_of_name (by decide +kernel)) (ok_X10_clock hl)
/-! Linkcourt$Ladder.takeOn()I -/
noncomputable def tb_X3_takeOn : List (Nat × mm_I) := [(0, mm_ldR 1 0), (1, mm_gfI 4 3 4), (4, mm_stI 5 1), (5, mm_ldI 6 1), (6, mm_lt1 41 9), (9, mm_ldI 10 1), (10, mm_k 12 (.int 10)), (12, mm_ge2 41 15), (15, mm_ldR 16 0), (16, mm_gfR 19 3 0), (19, mm_ldI 20 1), (20, mm_k 23 (.int 1000)), (23, mm_ast 24 0 (fun v => v)), (24, mm_ldR 25 0), (25, mm_gfR 28 3 1), (28, mm_ldI 29 1), (29, mm_ldI 30 1), (30, mm_ast 31 0 (fun v => v)), (31, mm_ldR 32 0), (32, mm_dup 33), (33, mm_gfI 36 3 4), (36, mm_k 37 (.int 1)), (37, mm_i2 38 (fun a b => a + b)), (38, mm_pfI 41 3 4), (41, mm_ldI 42 1), (42, mm_rtI)]
noncomputable def f_X3_takeOn : mm_F := mm_do (mm_pr tb_X3_takeOn) 2
theorem mn_X3_takeOn : mm_alln tb_X3_takeOn := ⟨mm_n_ldR _ _, mm_n_gfI _ _ _, mm_n_stI _ _, mm_n_ldI _ _, mm_n_lt1 _ _, mm_n_ldI _ _, mm_n_k _ _, mm_n_ge2 _ _, mm_n_ldR _ _, mm_n_gfR _ _ _, mm_n_ldI _ _, mm_n_k _ _, mm_n_ast _ _ _, mm_n_ldR _ _, mm_n_gfR _ _ _, mm_n_ldI _ _, mm_n_ldI _ _, mm_n_ast _ _ _, mm_n_ldR _ _, mm_n_dup _, mm_n_gfI _ _ _, mm_n_k _ _, mm_n_i2 _ _, mm_n_pfI _ _ _, mm_n_ldI _ _, mm_n_rtI, trivial⟩
theorem mo_X3_takeOn : mm_Mo f_X3_takeOn := mm_do_mo (mm_alln_mem mn_X3_takeOn)
set_option maxRecDepth 10000 in
theorem ok_X3_takeOn {l : Launch} (hl : l.stackTraces = false) : mm_Ok l yX3_takeOn cX3_takeOn 2 (some .int) 1 20 tb_X3_takeOn := by
  refine ⟨mm_alln_mem mn_X3_takeOn, fun p e cells slots s m args below meth c D tc A S ad Tg X hret hname htab hth => mm_allr_mem ?_⟩
  exact ⟨mm_r_aload_n X (show decode cX3_takeOn 0 = .ok (.aload_n 0, 1) by decide +kernel) rfl,
    mm_r_gfI X (ci := 3) (p := 4) (show mm_kd 3 4 = 0 by decide +kernel) rfl (Nat.le_of_ble_eq_true rfl) (show decode cX3_takeOn 1 = .ok (.getfield 24, 3) by decide +kernel) mw_415 rfl,
    mm_r_istore_n X (show decode cX3_takeOn 4 = .ok (.istore_n 1, 1) by decide +kernel) rfl (Nat.le_of_ble_eq_true rfl),
    mm_r_iload_n X (show decode cX3_takeOn 5 = .ok (.iload_n 1, 1) by decide +kernel) rfl,
    mm_r_lt1 X (show decode cX3_takeOn 6 = .ok (.ifCond .lt 35, 3) by decide +kernel) (by decide),
    mm_r_iload_n X (show decode cX3_takeOn 9 = .ok (.iload_n 1, 1) by decide +kernel) rfl,
    mm_r_bipush X (show decode cX3_takeOn 10 = .ok (.bipush 10, 2) by decide +kernel) rfl,
    mm_r_ge2 X (show decode cX3_takeOn 12 = .ok (.if_icmp .ge 29, 3) by decide +kernel) (by decide),
    mm_r_aload_n X (show decode cX3_takeOn 15 = .ok (.aload_n 0, 1) by decide +kernel) rfl,
    mm_r_gfR X (ci := 3) (p := 0) (show mm_kd 3 0 = 2 by decide +kernel) rfl (Nat.le_of_ble_eq_true rfl) (show decode cX3_takeOn 16 = .ok (.getfield 11, 3) by decide +kernel) mw_411 rfl,
    mm_r_iload_n X (show decode cX3_takeOn 19 = .ok (.iload_n 1, 1) by decide +kernel) rfl,
    mm_r_sipush X (show decode cX3_takeOn 20 = .ok (.sipush 1000, 3) by decide +kernel) rfl,
    mm_r_iast X (show decode cX3_takeOn 23 = .ok (.iastore, 1) by decide +kernel),
    mm_r_aload_n X (show decode cX3_takeOn 24 = .ok (.aload_n 0, 1) by decide +kernel) rfl,
    mm_r_gfR X (ci := 3) (p := 1) (show mm_kd 3 1 = 2 by decide +kernel) rfl (Nat.le_of_ble_eq_true rfl) (show decode cX3_takeOn 25 = .ok (.getfield 15, 3) by decide +kernel) mw_412 rfl,
    mm_r_iload_n X (show decode cX3_takeOn 28 = .ok (.iload_n 1, 1) by decide +kernel) rfl,
    mm_r_iload_n X (show decode cX3_takeOn 29 = .ok (.iload_n 1, 1) by decide +kernel) rfl,
    mm_r_iast X (show decode cX3_takeOn 30 = .ok (.iastore, 1) by decide +kernel),
    mm_r_aload_n X (show decode cX3_takeOn 31 = .ok (.aload_n 0, 1) by decide +kernel) rfl,
    mm_r_dup X (show decode cX3_takeOn 32 = .ok (.dup, 1) by decide +kernel),
    mm_r_gfI X (ci := 3) (p := 4) (show mm_kd 3 4 = 0 by decide +kernel) rfl (Nat.le_of_ble_eq_true rfl) (show decode cX3_takeOn 33 = .ok (.getfield 24, 3) by decide +kernel) mw_415 rfl,
    mm_r_iconst X (show decode cX3_takeOn 36 = .ok (.iconst 1, 1) by decide +kernel) rfl,
    mm_r_iadd X (show decode cX3_takeOn 37 = .ok (.iadd, 1) by decide +kernel),
    mm_r_pfI X (ci := 3) (p := 4) (show mm_kd 3 4 = 0 by decide +kernel) rfl rfl (Nat.le_of_ble_eq_true rfl) (show decode cX3_takeOn 38 = .ok (.putfield 24, 3) by decide +kernel) mw_415 rfl rfl,
    mm_r_iload_n X (show decode cX3_takeOn 41 = .ok (.iload_n 1, 1) by decide +kernel) rfl,
    mm_r_iret X hret (show decode cX3_takeOn 42 = .ok (.ireturn, 1) by decide +kernel), trivial⟩
theorem sn_X3_takeOn {l : Launch} (hl : l.stackTraces = false) : mm_Snd l yX3_takeOn (.code yX3_takeOn cX3_takeOn 2 (some .int)) 1 20 f_X3_takeOn := mm_met hl (plainFor_of_name (by decide +kernel)) (ok_X3_takeOn hl)
/-! Linkcourt.person()I -/
noncomputable def tb_X10_person : List (Nat × mm_I) := [(0, mm_ldR 1 0), (1, mm_gfR 4 10 8), (4, mm_gfI 7 3 4), (7, mm_k 9 (.int 10)), (9, mm_lt2 23 12), (12, mm_thr 3), (23, mm_ldR 24 0), (24, mm_gfR 27 10 8), (27, mm_clV 30 3 0 f_X3_takeOn), (30, mm_rtI)]
noncomputable def f_X10_person : mm_F := mm_do (mm_pr tb_X10_person) 1
theorem mn_X10_person : mm_alln tb_X10_person := ⟨mm_n_ldR _ _, mm_n_gfR _ _ _, mm_n_gfI _ _ _, mm_n_k _ _, mm_n_lt2 _ _, mm_n_thr _, mm_n_ldR _ _, mm_n_gfR _ _ _, mm_n_clV _ _ _ (mo_X3_takeOn), mm_n_rtI, trivial⟩
theorem mo_X10_person : mm_Mo f_X10_person := mm_do_mo (mm_alln_mem mn_X10_person)
set_option maxRecDepth 10000 in
theorem ok_X10_person {l : Launch} (hl : l.stackTraces = false) : mm_Ok l yX10_person cX10_person 1 (some .int) 6 90 tb_X10_person := by
  refine ⟨mm_alln_mem mn_X10_person, fun p e cells slots s m args below meth c D tc A S ad Tg X hret hname htab hth => mm_allr_mem ?_⟩
  exact ⟨mm_r_aload_n X (show decode cX10_person 0 = .ok (.aload_n 0, 1) by decide +kernel) rfl,
    mm_r_gfR X (ci := 10) (p := 8) (show mm_kd 10 8 = 2 by decide +kernel) rfl (Nat.le_of_ble_eq_true rfl) (show decode cX10_person 1 = .ok (.getfield 77, 3) by decide +kernel) mw_436 rfl,
    mm_r_gfI X (ci := 3) (p := 4) (show mm_kd 3 4 = 0 by decide +kernel) rfl (Nat.le_of_ble_eq_true rfl) (show decode cX10_person 4 = .ok (.getfield 345, 3) by decide +kernel) mw_416 rfl,
    mm_r_bipush X (show decode cX10_person 7 = .ok (.bipush 10, 2) by decide +kernel) rfl,
    mm_r_lt2 X (show decode cX10_person 9 = .ok (.if_icmp .lt 14, 3) by decide +kernel) (by decide),
    mm_r_thrW X htab (E := 3) (ik := 129) (is := 346) (ic := 133) (text := "there are 10 persons") (by decide) rfl mm_aw3 mw_729 mw_62 (by decide +kernel) (show decode cX10_person 12 = .ok (.new 129, 3) by decide +kernel) (show decode cX10_person 15 = .ok (.dup, 1) by decide +kernel) (show decode cX10_person 16 = .ok (.ldc_w 346, 3) by decide +kernel) (show decode cX10_person 19 = .ok (.invokespecial 133, 3) by decide +kernel) (show decode cX10_person 22 = .ok (.athrow, 1) by decide +kernel) (Nat.le_of_ble_eq_true rfl) (Nat.le_of_ble_eq_true rfl),
    mm_r_aload_n X (show decode cX10_person 23 = .ok (.aload_n 0, 1) by decide +kernel) rfl,
    mm_r_gfR X (ci := 10) (p := 8) (show mm_kd 10 8 = 2 by decide +kernel) rfl (Nat.le_of_ble_eq_true rfl) (show decode cX10_person 24 = .ok (.getfield 77, 3) by decide +kernel) mw_436 rfl,
    mm_r_clV X hth (ci := 3) (na := 0) (sn_X3_takeOn hl) rfl (show decode cX10_person 27 = .ok (.invokevirtual 348, 3) by decide +kernel) mw_1064 mw_1061 mw_1062 mw_1063 mw_55 hd_X3_takeOn ⟨(Nat.le_of_ble_eq_true rfl), (Nat.le_of_ble_eq_true rfl)⟩,
    mm_r_iret X hret (show decode cX10_person 30 = .ok (.ireturn, 1) by decide +kernel), trivial⟩
theorem sn_X10_person {l : Launch} (hl : l.stackTraces = false) : mm_Snd l yX10_person (.code yX10_person cX10_person 1 (some .int)) 6 90 f_X10_person := mm_met hl (plainFor_of_name (by decide +kernel)) (ok_X10_person hl)
/-! Linkcourt$Ladder.hasPerson(I)Z -/
noncomputable def tb_X3_hasPerson : List (Nat × mm_I) := [(0, mm_ldI 1 1), (1, mm_lt1 22 4), (4, mm_ldI 5 1), (5, mm_ldR 6 0), (6, mm_gfI 9 3 4), (9, mm_ge2 22 12), (12, mm_ldI 13 1), (13, mm_k 15 (.int 10)), (15, mm_ge2 22 18), (18, mm_k 19 (.int 1)), (19, mm_go 23), (22, mm_k 23 (.int 0)), (23, mm_rtZ)]
noncomputable def f_X3_hasPerson : mm_F := mm_do (mm_pr tb_X3_hasPerson) 2
theorem mn_X3_hasPerson : mm_alln tb_X3_hasPerson := ⟨mm_n_ldI _ _, mm_n_lt1 _ _, mm_n_ldI _ _, mm_n_ldR _ _, mm_n_gfI _ _ _, mm_n_ge2 _ _, mm_n_ldI _ _, mm_n_k _ _, mm_n_ge2 _ _, mm_n_k _ _, mm_n_go _, mm_n_k _ _, mm_n_rtZ, trivial⟩
theorem mo_X3_hasPerson : mm_Mo f_X3_hasPerson := mm_do_mo (mm_alln_mem mn_X3_hasPerson)
set_option maxRecDepth 10000 in
theorem ok_X3_hasPerson {l : Launch} (hl : l.stackTraces = false) : mm_Ok l yX3_hasPerson cX3_hasPerson 2 (some .boolean) 1 20 tb_X3_hasPerson := by
  refine ⟨mm_alln_mem mn_X3_hasPerson, fun p e cells slots s m args below meth c D tc A S ad Tg X hret hname htab hth => mm_allr_mem ?_⟩
  exact ⟨mm_r_iload_n X (show decode cX3_hasPerson 0 = .ok (.iload_n 1, 1) by decide +kernel) rfl,
    mm_r_lt1 X (show decode cX3_hasPerson 1 = .ok (.ifCond .lt 21, 3) by decide +kernel) (by decide),
    mm_r_iload_n X (show decode cX3_hasPerson 4 = .ok (.iload_n 1, 1) by decide +kernel) rfl,
    mm_r_aload_n X (show decode cX3_hasPerson 5 = .ok (.aload_n 0, 1) by decide +kernel) rfl,
    mm_r_gfI X (ci := 3) (p := 4) (show mm_kd 3 4 = 0 by decide +kernel) rfl (Nat.le_of_ble_eq_true rfl) (show decode cX3_hasPerson 6 = .ok (.getfield 24, 3) by decide +kernel) mw_415 rfl,
    mm_r_ge2 X (show decode cX3_hasPerson 9 = .ok (.if_icmp .ge 13, 3) by decide +kernel) (by decide),
    mm_r_iload_n X (show decode cX3_hasPerson 12 = .ok (.iload_n 1, 1) by decide +kernel) rfl,
    mm_r_bipush X (show decode cX3_hasPerson 13 = .ok (.bipush 10, 2) by decide +kernel) rfl,
    mm_r_ge2 X (show decode cX3_hasPerson 15 = .ok (.if_icmp .ge 7, 3) by decide +kernel) (by decide),
    mm_r_iconst X (show decode cX3_hasPerson 18 = .ok (.iconst 1, 1) by decide +kernel) rfl,
    mm_r_goto X (show decode cX3_hasPerson 19 = .ok (.goto 4, 3) by decide +kernel) (by decide),
    mm_r_iconst X (show decode cX3_hasPerson 22 = .ok (.iconst 0, 1) by decide +kernel) rfl,
    mm_r_zret X hret (show decode cX3_hasPerson 23 = .ok (.ireturn, 1) by decide +kernel), trivial⟩
theorem sn_X3_hasPerson {l : Launch} (hl : l.stackTraces = false) : mm_Snd l yX3_hasPerson (.code yX3_hasPerson cX3_hasPerson 2 (some .boolean)) 1 20 f_X3_hasPerson := mm_met hl (plainFor_of_name (by decide +kernel)) (ok_X3_hasPerson hl)
/-! Linkcourt$Ladder.climb(II)V -/
noncomputable def tb_X3_climb : List (Nat × mm_I) := [(0, mm_ldR 1 0), (1, mm_ldI 2 1), (2, mm_clV 5 3 1 f_X3_hasPerson), (5, mm_eq1 18 8), (8, mm_ldR 9 0), (9, mm_gfR 12 3 1), (12, mm_ldI 13 1), (13, mm_ald 14 0), (14, mm_ldI 15 2), (15, mm_ge2 19 18), (18, mm_rtV), (19, mm_ldR 20 0), (20, mm_gfR 23 3 1), (23, mm_ldI 24 1), (24, mm_ald 25 0), (25, mm_stI 26 3), (26, mm_k 27 (.int 0)), (27, mm_stI 29 4), (29, mm_ldI 31 4), (31, mm_ldR 32 0), (32, mm_gfI 35 3 4), (35, mm_ge2 88 38), (38, mm_ldI 40 4), (40, mm_k 42 (.int 10)), (42, mm_ge2 88 45), (45, mm_ldR 46 0), (46, mm_gfR 49 3 1), (49, mm_ldI 51 4), (51, mm_dup2 52), (52, mm_ald 53 0), (53, mm_ldR 54 0), (54, mm_gfR 57 3 1), (57, mm_ldI 59 4), (59, mm_ald 60 0), (60, mm_ldI 61 2), (61, mm_lt2 79 64), (64, mm_ldR 65 0), (65, mm_gfR 68 3 1), (68, mm_ldI 70 4), (70, mm_ald 71 0), (71, mm_ldI 72 3), (72, mm_ge2 79 75), (75, mm_k 76 (.int 1)), (76, mm_go 80), (79, mm_k 80 (.int 0)), (80, mm_i2 81 (fun a b => a + b)), (81, mm_ast 82 0 (fun v => v)), (82, mm_inc 85 4 1), (85, mm_go 29), (88, mm_ldR 89 0), (89, mm_gfR 92 3 1), (92, mm_ldI 93 1), (93, mm_ldI 94 2), (94, mm_ast 95 0 (fun v => v)), (95, mm_rtV)]
noncomputable def f_X3_climb : mm_F := mm_do (mm_pr tb_X3_climb) 5
theorem mn_X3_climb : mm_alln tb_X3_climb := ⟨mm_n_ldR _ _, mm_n_ldI _ _, mm_n_clV _ _ _ (mo_X3_hasPerson), mm_n_eq1 _ _, mm_n_ldR _ _, mm_n_gfR _ _ _, mm_n_ldI _ _, mm_n_ald _ _, mm_n_ldI _ _, mm_n_ge2 _ _, mm_n_rtV, mm_n_ldR _ _, mm_n_gfR _ _ _, mm_n_ldI _ _, mm_n_ald _ _, mm_n_stI _ _, mm_n_k _ _, mm_n_stI _ _, mm_n_ldI _ _, mm_n_ldR _ _, mm_n_gfI _ _ _, mm_n_ge2 _ _, mm_n_ldI _ _, mm_n_k _ _, mm_n_ge2 _ _, mm_n_ldR _ _, mm_n_gfR _ _ _, mm_n_ldI _ _, mm_n_dup2 _, mm_n_ald _ _, mm_n_ldR _ _, mm_n_gfR _ _ _, mm_n_ldI _ _, mm_n_ald _ _, mm_n_ldI _ _, mm_n_lt2 _ _, mm_n_ldR _ _, mm_n_gfR _ _ _, mm_n_ldI _ _, mm_n_ald _ _, mm_n_ldI _ _, mm_n_ge2 _ _, mm_n_k _ _, mm_n_go _, mm_n_k _ _, mm_n_i2 _ _, mm_n_ast _ _ _, mm_n_inc _ _ _, mm_n_go _, mm_n_ldR _ _, mm_n_gfR _ _ _, mm_n_ldI _ _, mm_n_ldI _ _, mm_n_ast _ _ _, mm_n_rtV, trivial⟩
theorem mo_X3_climb : mm_Mo f_X3_climb := mm_do_mo (mm_alln_mem mn_X3_climb)
set_option maxRecDepth 10000 in
theorem ok_X3_climb {l : Launch} (hl : l.stackTraces = false) : mm_Ok l yX3_climb cX3_climb 5 none 2 41 tb_X3_climb := by
  refine ⟨mm_alln_mem mn_X3_climb, fun p e cells slots s m args below meth c D tc A S ad Tg X hret hname htab hth => mm_allr_mem ?_⟩
  exact ⟨mm_r_aload_n X (show decode cX3_climb 0 = .ok (.aload_n 0, 1) by decide +kernel) rfl,
    mm_r_iload_n X (show decode cX3_climb 1 = .ok (.iload_n 1, 1) by decide +kernel) rfl,
    mm_r_clV X hth (ci := 3) (na := 1) (sn_X3_hasPerson hl) rfl (show decode cX3_climb 2 = .ok (.invokevirtual 28, 3) by decide +kernel) mw_657 mw_663 mw_655 mw_656 mw_55 hd_X3_hasPerson ⟨(Nat.le_of_ble_eq_true rfl), (Nat.le_of_ble_eq_true rfl)⟩,
    mm_r_eq1 X (show decode cX3_climb 5 = .ok (.ifCond .eq 13, 3) by decide +kernel) (by decide),
    mm_r_aload_n X (show decode cX3_climb 8 = .ok (.aload_n 0, 1) by decide +kernel) rfl,
    mm_r_gfR X (ci := 3) (p := 1) (show mm_kd 3 1 = 2 by decide +kernel) rfl (Nat.le_of_ble_eq_true rfl) (show decode cX3_climb 9 = .ok (.getfield 15, 3) by decide +kernel) mw_412 rfl,
    mm_r_iload_n X (show decode cX3_climb 12 = .ok (.iload_n 1, 1) by decide +kernel) rfl,
    mm_r_iald X (show decode cX3_climb 13 = .ok (.iaload, 1) by decide +kernel),
    mm_r_iload_n X (show decode cX3_climb 14 = .ok (.iload_n 2, 1) by decide +kernel) rfl,
    mm_r_ge2 X (show decode cX3_climb 15 = .ok (.if_icmp .ge 4, 3) by decide +kernel) (by decide),
    mm_r_vret X hret (show decode cX3_climb 18 = .ok (.return_, 1) by decide +kernel),
    mm_r_aload_n X (show decode cX3_climb 19 = .ok (.aload_n 0, 1) by decide +kernel) rfl,
    mm_r_gfR X (ci := 3) (p := 1) (show mm_kd 3 1 = 2 by decide +kernel) rfl (Nat.le_of_ble_eq_true rfl) (show decode cX3_climb 20 = .ok (.getfield 15, 3) by decide +kernel) mw_412 rfl,
    mm_r_iload_n X (show decode cX3_climb 23 = .ok (.iload_n 1, 1) by decide +kernel) rfl,
    mm_r_iald X (show decode cX3_climb 24 = .ok (.iaload, 1) by decide +kernel),
    mm_r_istore_n X (show decode cX3_climb 25 = .ok (.istore_n 3, 1) by decide +kernel) rfl (Nat.le_of_ble_eq_true rfl),
    mm_r_iconst X (show decode cX3_climb 26 = .ok (.iconst 0, 1) by decide +kernel) rfl,
    mm_r_istore X (show decode cX3_climb 27 = .ok (.istore 4, 2) by decide +kernel) (Nat.le_of_ble_eq_true rfl),
    mm_r_iload X (show decode cX3_climb 29 = .ok (.iload 4, 2) by decide +kernel),
    mm_r_aload_n X (show decode cX3_climb 31 = .ok (.aload_n 0, 1) by decide +kernel) rfl,
    mm_r_gfI X (ci := 3) (p := 4) (show mm_kd 3 4 = 0 by decide +kernel) rfl (Nat.le_of_ble_eq_true rfl) (show decode cX3_climb 32 = .ok (.getfield 24, 3) by decide +kernel) mw_415 rfl,
    mm_r_ge2 X (show decode cX3_climb 35 = .ok (.if_icmp .ge 53, 3) by decide +kernel) (by decide),
    mm_r_iload X (show decode cX3_climb 38 = .ok (.iload 4, 2) by decide +kernel),
    mm_r_bipush X (show decode cX3_climb 40 = .ok (.bipush 10, 2) by decide +kernel) rfl,
    mm_r_ge2 X (show decode cX3_climb 42 = .ok (.if_icmp .ge 46, 3) by decide +kernel) (by decide),
    mm_r_aload_n X (show decode cX3_climb 45 = .ok (.aload_n 0, 1) by decide +kernel) rfl,
    mm_r_gfR X (ci := 3) (p := 1) (show mm_kd 3 1 = 2 by decide +kernel) rfl (Nat.le_of_ble_eq_true rfl) (show decode cX3_climb 46 = .ok (.getfield 15, 3) by decide +kernel) mw_412 rfl,
    mm_r_iload X (show decode cX3_climb 49 = .ok (.iload 4, 2) by decide +kernel),
    mm_r_dup2 X (show decode cX3_climb 51 = .ok (.dup2, 1) by decide +kernel),
    mm_r_iald X (show decode cX3_climb 52 = .ok (.iaload, 1) by decide +kernel),
    mm_r_aload_n X (show decode cX3_climb 53 = .ok (.aload_n 0, 1) by decide +kernel) rfl,
    mm_r_gfR X (ci := 3) (p := 1) (show mm_kd 3 1 = 2 by decide +kernel) rfl (Nat.le_of_ble_eq_true rfl) (show decode cX3_climb 54 = .ok (.getfield 15, 3) by decide +kernel) mw_412 rfl,
    mm_r_iload X (show decode cX3_climb 57 = .ok (.iload 4, 2) by decide +kernel),
    mm_r_iald X (show decode cX3_climb 59 = .ok (.iaload, 1) by decide +kernel),
    mm_r_iload_n X (show decode cX3_climb 60 = .ok (.iload_n 2, 1) by decide +kernel) rfl,
    mm_r_lt2 X (show decode cX3_climb 61 = .ok (.if_icmp .lt 18, 3) by decide +kernel) (by decide),
    mm_r_aload_n X (show decode cX3_climb 64 = .ok (.aload_n 0, 1) by decide +kernel) rfl,
    mm_r_gfR X (ci := 3) (p := 1) (show mm_kd 3 1 = 2 by decide +kernel) rfl (Nat.le_of_ble_eq_true rfl) (show decode cX3_climb 65 = .ok (.getfield 15, 3) by decide +kernel) mw_412 rfl,
    mm_r_iload X (show decode cX3_climb 68 = .ok (.iload 4, 2) by decide +kernel),
    mm_r_iald X (show decode cX3_climb 70 = .ok (.iaload, 1) by decide +kernel),
    mm_r_iload_n X (show decode cX3_climb 71 = .ok (.iload_n 3, 1) by decide +kernel) rfl,
    mm_r_ge2 X (show decode cX3_climb 72 = .ok (.if_icmp .ge 7, 3) by decide +kernel) (by decide),
    mm_r_iconst X (show decode cX3_climb 75 = .ok (.iconst 1, 1) by decide +kernel) rfl,
    mm_r_goto X (show decode cX3_climb 76 = .ok (.goto 4, 3) by decide +kernel) (by decide),
    mm_r_iconst X (show decode cX3_climb 79 = .ok (.iconst 0, 1) by decide +kernel) rfl,
    mm_r_iadd X (show decode cX3_climb 80 = .ok (.iadd, 1) by decide +kernel),
    mm_r_iast X (show decode cX3_climb 81 = .ok (.iastore, 1) by decide +kernel),
    mm_r_iinc X (show decode cX3_climb 82 = .ok (.iinc 4 1, 3) by decide +kernel) rfl (Nat.le_of_ble_eq_true rfl),
    mm_r_goto X (show decode cX3_climb 85 = .ok (.goto (-56), 3) by decide +kernel) (by decide),
    mm_r_aload_n X (show decode cX3_climb 88 = .ok (.aload_n 0, 1) by decide +kernel) rfl,
    mm_r_gfR X (ci := 3) (p := 1) (show mm_kd 3 1 = 2 by decide +kernel) rfl (Nat.le_of_ble_eq_true rfl) (show decode cX3_climb 89 = .ok (.getfield 15, 3) by decide +kernel) mw_412 rfl,
    mm_r_iload_n X (show decode cX3_climb 92 = .ok (.iload_n 1, 1) by decide +kernel) rfl,
    mm_r_iload_n X (show decode cX3_climb 93 = .ok (.iload_n 2, 1) by decide +kernel) rfl,
    mm_r_iast X (show decode cX3_climb 94 = .ok (.iastore, 1) by decide +kernel),
    mm_r_vret X hret (show decode cX3_climb 95 = .ok (.return_, 1) by decide +kernel), trivial⟩
theorem sn_X3_climb {l : Launch} (hl : l.stackTraces = false) : mm_Snd l yX3_climb (.code yX3_climb cX3_climb 5 none) 2 41 f_X3_climb := mm_met hl (plainFor_of_name (by decide +kernel)) (ok_X3_climb hl)
/-! Linkcourt$Ladder.enter(II)I -/
noncomputable def tb_X3_enter : List (Nat × mm_I) := [(0, mm_ldR 1 0), (1, mm_ldI 2 1), (2, mm_clV 5 3 1 f_X3_hasPerson), (5, mm_eq1 16 8), (8, mm_ldR 9 0), (9, mm_ldI 10 2), (10, mm_clV 13 3 1 f_X3_hasPerson), (13, mm_ne1 18 16), (16, mm_k 17 (.int (-1))), (17, mm_rtI), (18, mm_ldR 19 0), (19, mm_gfR 22 3 0), (22, mm_ldI 23 1), (23, mm_ald 24 0), (24, mm_ldR 25 0), (25, mm_gfR 28 3 0), (28, mm_ldI 29 2), (29, mm_ald 30 0), (30, mm_i2 31 (fun a b => a - b)), (31, mm_stI 32 3), (32, mm_k 33 (.int 1)), (33, mm_k 35 (.int 31)), (35, mm_k 37 (.int 16)), (37, mm_ldI 38 3), (38, mm_k 40 (.int 25)), (40, mm_clS 43 2 f_J9_floorDiv_7cf53), (43, mm_i2 44 (fun a b => a - b)), (44, mm_clS 47 2 f_J9_min_7cf53), (47, mm_clS 50 2 f_J9_max_7cf53), (50, mm_stI 52 4), (52, mm_ldR 53 0), (53, mm_gfR 56 3 0), (56, mm_ldI 57 1), (57, mm_dup2 58), (58, mm_ald 59 0), (59, mm_ldI 61 4), (61, mm_i2 62 (fun a b => a + b)), (62, mm_ast 63 0 (fun v => v)), (63, mm_ldR 64 0), (64, mm_gfR 67 3 0), (67, mm_ldI 68 2), (68, mm_dup2 69), (69, mm_ald 70 0), (70, mm_ldI 72 4), (72, mm_i2 73 (fun a b => a - b)), (73, mm_ast 74 0 (fun v => v)), (74, mm_ldR 75 0), (75, mm_gfR 78 3 2), (78, mm_ldI 79 1), (79, mm_dup2 80), (80, mm_ald 81 0), (81, mm_k 82 (.int 1)), (82, mm_i2 83 (fun a b => a + b)), (83, mm_ast 84 0 (fun v => v)), (84, mm_ldR 85 0), (85, mm_gfR 88 3 3), (88, mm_ldI 89 2), (89, mm_dup2 90), (90, mm_ald 91 0), (91, mm_k 92 (.int 1)), (92, mm_i2 93 (fun a b => a + b)), (93, mm_ast 94 0 (fun v => v)), (94, mm_ldR 95 0), (95, mm_ldI 96 1), (96, mm_ldR 97 0), (97, mm_gfR 100 3 1), (100, mm_ldI 101 2), (101, mm_ald 102 0), (102, mm_clV 105 3 2 f_X3_climb), (105, mm_ldR 106 0), (106, mm_gfR 109 3 0), (109, mm_ldI 110 1), (110, mm_ald 111 0), (111, mm_rtI)]
noncomputable def f_X3_enter : mm_F := mm_do (mm_pr tb_X3_enter) 5
theorem mn_X3_enter : mm_alln tb_X3_enter := ⟨mm_n_ldR _ _, mm_n_ldI _ _, mm_n_clV _ _ _ (mo_X3_hasPerson), mm_n_eq1 _ _, mm_n_ldR _ _, mm_n_ldI _ _, mm_n_clV _ _ _ (mo_X3_hasPerson), mm_n_ne1 _ _, mm_n_k _ _, mm_n_rtI, mm_n_ldR _ _, mm_n_gfR _ _ _, mm_n_ldI _ _, mm_n_ald _ _, mm_n_ldR _ _, mm_n_gfR _ _ _, mm_n_ldI _ _, mm_n_ald _ _, mm_n_i2 _ _, mm_n_stI _ _, mm_n_k _ _, mm_n_k _ _, mm_n_k _ _, mm_n_ldI _ _, mm_n_k _ _, mm_n_clS _ _ (mo_J9_floorDiv_7cf53), mm_n_i2 _ _, mm_n_clS _ _ (mo_J9_min_7cf53), mm_n_clS _ _ (mo_J9_max_7cf53), mm_n_stI _ _, mm_n_ldR _ _, mm_n_gfR _ _ _, mm_n_ldI _ _, mm_n_dup2 _, mm_n_ald _ _, mm_n_ldI _ _, mm_n_i2 _ _, mm_n_ast _ _ _, mm_n_ldR _ _, mm_n_gfR _ _ _, mm_n_ldI _ _, mm_n_dup2 _, mm_n_ald _ _, mm_n_ldI _ _, mm_n_i2 _ _, mm_n_ast _ _ _, mm_n_ldR _ _, mm_n_gfR _ _ _, mm_n_ldI _ _, mm_n_dup2 _, mm_n_ald _ _, mm_n_k _ _, mm_n_i2 _ _, mm_n_ast _ _ _, mm_n_ldR _ _, mm_n_gfR _ _ _, mm_n_ldI _ _, mm_n_dup2 _, mm_n_ald _ _, mm_n_k _ _, mm_n_i2 _ _, mm_n_ast _ _ _, mm_n_ldR _ _, mm_n_ldI _ _, mm_n_ldR _ _, mm_n_gfR _ _ _, mm_n_ldI _ _, mm_n_ald _ _, mm_n_clV _ _ _ (mo_X3_climb), mm_n_ldR _ _, mm_n_gfR _ _ _, mm_n_ldI _ _, mm_n_ald _ _, mm_n_rtI, trivial⟩
theorem mo_X3_enter : mm_Mo f_X3_enter := mm_do_mo (mm_alln_mem mn_X3_enter)
set_option maxRecDepth 10000 in
theorem ok_X3_enter {l : Launch} (hl : l.stackTraces = false) : mm_Ok l yX3_enter cX3_enter 5 (some .int) 3 65 tb_X3_enter := by
  refine ⟨mm_alln_mem mn_X3_enter, fun p e cells slots s m args below meth c D tc A S ad Tg X hret hname htab hth => mm_allr_mem ?_⟩
  exact ⟨mm_r_aload_n X (show decode cX3_enter 0 = .ok (.aload_n 0, 1) by decide +kernel) rfl,
    mm_r_iload_n X (show decode cX3_enter 1 = .ok (.iload_n 1, 1) by decide +kernel) rfl,
    mm_r_clV X hth (ci := 3) (na := 1) (sn_X3_hasPerson hl) rfl (show decode cX3_enter 2 = .ok (.invokevirtual 28, 3) by decide +kernel) mw_657 mw_663 mw_655 mw_656 mw_55 hd_X3_hasPerson ⟨(Nat.le_of_ble_eq_true rfl), (Nat.le_of_ble_eq_true rfl)⟩,
    mm_r_eq1 X (show decode cX3_enter 5 = .ok (.ifCond .eq 11, 3) by decide +kernel) (by decide),
    mm_r_aload_n X (show decode cX3_enter 8 = .ok (.aload_n 0, 1) by decide +kernel) rfl,
    mm_r_iload_n X (show decode cX3_enter 9 = .ok (.iload_n 2, 1) by decide +kernel) rfl,
    mm_r_clV X hth (ci := 3) (na := 1) (sn_X3_hasPerson hl) rfl (show decode cX3_enter 10 = .ok (.invokevirtual 28, 3) by decide +kernel) mw_657 mw_663 mw_655 mw_656 mw_55 hd_X3_hasPerson ⟨(Nat.le_of_ble_eq_true rfl), (Nat.le_of_ble_eq_true rfl)⟩,
    mm_r_ne1 X (show decode cX3_enter 13 = .ok (.ifCond .ne 5, 3) by decide +kernel) (by decide),
    mm_r_iconst X (show decode cX3_enter 16 = .ok (.iconst (-1), 1) by decide +kernel) rfl,
    mm_r_iret X hret (show decode cX3_enter 17 = .ok (.ireturn, 1) by decide +kernel),
    mm_r_aload_n X (show decode cX3_enter 18 = .ok (.aload_n 0, 1) by decide +kernel) rfl,
    mm_r_gfR X (ci := 3) (p := 0) (show mm_kd 3 0 = 2 by decide +kernel) rfl (Nat.le_of_ble_eq_true rfl) (show decode cX3_enter 19 = .ok (.getfield 11, 3) by decide +kernel) mw_411 rfl,
    mm_r_iload_n X (show decode cX3_enter 22 = .ok (.iload_n 1, 1) by decide +kernel) rfl,
    mm_r_iald X (show decode cX3_enter 23 = .ok (.iaload, 1) by decide +kernel),
    mm_r_aload_n X (show decode cX3_enter 24 = .ok (.aload_n 0, 1) by decide +kernel) rfl,
    mm_r_gfR X (ci := 3) (p := 0) (show mm_kd 3 0 = 2 by decide +kernel) rfl (Nat.le_of_ble_eq_true rfl) (show decode cX3_enter 25 = .ok (.getfield 11, 3) by decide +kernel) mw_411 rfl,
    mm_r_iload_n X (show decode cX3_enter 28 = .ok (.iload_n 2, 1) by decide +kernel) rfl,
    mm_r_iald X (show decode cX3_enter 29 = .ok (.iaload, 1) by decide +kernel),
    mm_r_isub X (show decode cX3_enter 30 = .ok (.isub, 1) by decide +kernel),
    mm_r_istore_n X (show decode cX3_enter 31 = .ok (.istore_n 3, 1) by decide +kernel) rfl (Nat.le_of_ble_eq_true rfl),
    mm_r_iconst X (show decode cX3_enter 32 = .ok (.iconst 1, 1) by decide +kernel) rfl,
    mm_r_bipush X (show decode cX3_enter 33 = .ok (.bipush 31, 2) by decide +kernel) rfl,
    mm_r_bipush X (show decode cX3_enter 35 = .ok (.bipush 16, 2) by decide +kernel) rfl,
    mm_r_iload_n X (show decode cX3_enter 37 = .ok (.iload_n 3, 1) by decide +kernel) rfl,
    mm_r_bipush X (show decode cX3_enter 38 = .ok (.bipush 25, 2) by decide +kernel) rfl,
    mm_r_clS X hth (na := 2) (sn_J9_floorDiv_7cf53 hl) (show decode cX3_enter 40 = .ok (.invokestatic 32, 3) by decide +kernel) mw_1077 mw_1075 mw_1076 mw_63 hd_J9_floorDiv_7cf53.2 ⟨(Nat.le_of_ble_eq_true rfl), (Nat.le_of_ble_eq_true rfl)⟩,
    mm_r_isub X (show decode cX3_enter 43 = .ok (.isub, 1) by decide +kernel),
    mm_r_clS X hth (na := 2) (sn_J9_min_7cf53 hl) (show decode cX3_enter 44 = .ok (.invokestatic 38, 3) by decide +kernel) mw_969 mw_1078 mw_968 mw_63 hd_J9_min_7cf53.2 ⟨(Nat.le_of_ble_eq_true rfl), (Nat.le_of_ble_eq_true rfl)⟩,
    mm_r_clS X hth (na := 2) (sn_J9_max_7cf53 hl) (show decode cX3_enter 47 = .ok (.invokestatic 41, 3) by decide +kernel) mw_840 mw_1079 mw_839 mw_63 hd_J9_max_7cf53.2 ⟨(Nat.le_of_ble_eq_true rfl), (Nat.le_of_ble_eq_true rfl)⟩,
    mm_r_istore X (show decode cX3_enter 50 = .ok (.istore 4, 2) by decide +kernel) (Nat.le_of_ble_eq_true rfl),
    mm_r_aload_n X (show decode cX3_enter 52 = .ok (.aload_n 0, 1) by decide +kernel) rfl,
    mm_r_gfR X (ci := 3) (p := 0) (show mm_kd 3 0 = 2 by decide +kernel) rfl (Nat.le_of_ble_eq_true rfl) (show decode cX3_enter 53 = .ok (.getfield 11, 3) by decide +kernel) mw_411 rfl,
    mm_r_iload_n X (show decode cX3_enter 56 = .ok (.iload_n 1, 1) by decide +kernel) rfl,
    mm_r_dup2 X (show decode cX3_enter 57 = .ok (.dup2, 1) by decide +kernel),
    mm_r_iald X (show decode cX3_enter 58 = .ok (.iaload, 1) by decide +kernel),
    mm_r_iload X (show decode cX3_enter 59 = .ok (.iload 4, 2) by decide +kernel),
    mm_r_iadd X (show decode cX3_enter 61 = .ok (.iadd, 1) by decide +kernel),
    mm_r_iast X (show decode cX3_enter 62 = .ok (.iastore, 1) by decide +kernel),
    mm_r_aload_n X (show decode cX3_enter 63 = .ok (.aload_n 0, 1) by decide +kernel) rfl,
    mm_r_gfR X (ci := 3) (p := 0) (show mm_kd 3 0 = 2 by decide +kernel) rfl (Nat.le_of_ble_eq_true rfl) (show decode cX3_enter 64 = .ok (.getfield 11, 3) by decide +kernel) mw_411 rfl,
    mm_r_iload_n X (show decode cX3_enter 67 = .ok (.iload_n 2, 1) by decide +kernel) rfl,
    mm_r_dup2 X (show decode cX3_enter 68 = .ok (.dup2, 1) by decide +kernel),
    mm_r_iald X (show decode cX3_enter 69 = .ok (.iaload, 1) by decide +kernel),
    mm_r_iload X (show decode cX3_enter 70 = .ok (.iload 4, 2) by decide +kernel),
    mm_r_isub X (show decode cX3_enter 72 = .ok (.isub, 1) by decide +kernel),
    mm_r_iast X (show decode cX3_enter 73 = .ok (.iastore, 1) by decide +kernel),
    mm_r_aload_n X (show decode cX3_enter 74 = .ok (.aload_n 0, 1) by decide +kernel) rfl,
    mm_r_gfR X (ci := 3) (p := 2) (show mm_kd 3 2 = 2 by decide +kernel) rfl (Nat.le_of_ble_eq_true rfl) (show decode cX3_enter 75 = .ok (.getfield 18, 3) by decide +kernel) mw_413 rfl,
    mm_r_iload_n X (show decode cX3_enter 78 = .ok (.iload_n 1, 1) by decide +kernel) rfl,
    mm_r_dup2 X (show decode cX3_enter 79 = .ok (.dup2, 1) by decide +kernel),
    mm_r_iald X (show decode cX3_enter 80 = .ok (.iaload, 1) by decide +kernel),
    mm_r_iconst X (show decode cX3_enter 81 = .ok (.iconst 1, 1) by decide +kernel) rfl,
    mm_r_iadd X (show decode cX3_enter 82 = .ok (.iadd, 1) by decide +kernel),
    mm_r_iast X (show decode cX3_enter 83 = .ok (.iastore, 1) by decide +kernel),
    mm_r_aload_n X (show decode cX3_enter 84 = .ok (.aload_n 0, 1) by decide +kernel) rfl,
    mm_r_gfR X (ci := 3) (p := 3) (show mm_kd 3 3 = 2 by decide +kernel) rfl (Nat.le_of_ble_eq_true rfl) (show decode cX3_enter 85 = .ok (.getfield 21, 3) by decide +kernel) mw_414 rfl,
    mm_r_iload_n X (show decode cX3_enter 88 = .ok (.iload_n 2, 1) by decide +kernel) rfl,
    mm_r_dup2 X (show decode cX3_enter 89 = .ok (.dup2, 1) by decide +kernel),
    mm_r_iald X (show decode cX3_enter 90 = .ok (.iaload, 1) by decide +kernel),
    mm_r_iconst X (show decode cX3_enter 91 = .ok (.iconst 1, 1) by decide +kernel) rfl,
    mm_r_iadd X (show decode cX3_enter 92 = .ok (.iadd, 1) by decide +kernel),
    mm_r_iast X (show decode cX3_enter 93 = .ok (.iastore, 1) by decide +kernel),
    mm_r_aload_n X (show decode cX3_enter 94 = .ok (.aload_n 0, 1) by decide +kernel) rfl,
    mm_r_iload_n X (show decode cX3_enter 95 = .ok (.iload_n 1, 1) by decide +kernel) rfl,
    mm_r_aload_n X (show decode cX3_enter 96 = .ok (.aload_n 0, 1) by decide +kernel) rfl,
    mm_r_gfR X (ci := 3) (p := 1) (show mm_kd 3 1 = 2 by decide +kernel) rfl (Nat.le_of_ble_eq_true rfl) (show decode cX3_enter 97 = .ok (.getfield 15, 3) by decide +kernel) mw_412 rfl,
    mm_r_iload_n X (show decode cX3_enter 100 = .ok (.iload_n 2, 1) by decide +kernel) rfl,
    mm_r_iald X (show decode cX3_enter 101 = .ok (.iaload, 1) by decide +kernel),
    mm_r_clV X hth (ci := 3) (na := 2) (sn_X3_climb hl) rfl (show decode cX3_enter 102 = .ok (.invokevirtual 44, 3) by decide +kernel) mw_1083 mw_1080 mw_1082 mw_39 mw_55 hd_X3_climb ⟨(Nat.le_of_ble_eq_true rfl), (Nat.le_of_ble_eq_true rfl)⟩,
    mm_r_aload_n X (show decode cX3_enter 105 = .ok (.aload_n 0, 1) by decide +kernel) rfl,
    mm_r_gfR X (ci := 3) (p := 0) (show mm_kd 3 0 = 2 by decide +kernel) rfl (Nat.le_of_ble_eq_true rfl) (show decode cX3_enter 106 = .ok (.getfield 11, 3) by decide +kernel) mw_411 rfl,
    mm_r_iload_n X (show decode cX3_enter 109 = .ok (.iload_n 1, 1) by decide +kernel) rfl,
    mm_r_iald X (show decode cX3_enter 110 = .ok (.iaload, 1) by decide +kernel),
    mm_r_iret X hret (show decode cX3_enter 111 = .ok (.ireturn, 1) by decide +kernel), trivial⟩
theorem sn_X3_enter {l : Launch} (hl : l.stackTraces = false) : mm_Snd l yX3_enter (.code yX3_enter cX3_enter 5 (some .int)) 3 65 f_X3_enter := mm_met hl (plainFor_of_name (by decide +kernel)) (ok_X3_enter hl)
/-! Linkcourt.record(II)I -/
noncomputable def tb_X10_record : List (Nat × mm_I) := [(0, mm_ldR 1 0), (1, mm_gfR 4 10 8), (4, mm_ldI 5 1), (5, mm_clV 8 3 1 f_X3_hasPerson), (8, mm_eq1 22 11), (11, mm_ldR 12 0), (12, mm_gfR 15 10 8), (15, mm_ldI 16 2), (16, mm_clV 19 3 1 f_X3_hasPerson), (19, mm_ne1 33 22), (22, mm_thr 1), (33, mm_ldI 34 1), (34, mm_ldI 35 2), (35, mm_ne2 49 38), (38, mm_thr 2), (49, mm_ldR 50 0), (50, mm_clV 53 10 0 f_X10_winner), (53, mm_stI 54 3), (54, mm_ldI 55 3), (55, mm_k 56 (.int (-1))), (56, mm_eq2 66 59), (59, mm_ldR 60 0), (60, mm_gfI 63 10 9), (63, mm_eq1 77 66), (66, mm_thr 3), (77, mm_ldR 78 0), (78, mm_k 79 (.int 1)), (79, mm_pfZ 82 10 9), (82, mm_ldI 83 3), (83, mm_ne1 98 86), (86, mm_ldR 87 0), (87, mm_gfR 90 10 8), (90, mm_ldI 91 1), (91, mm_ldI 92 2), (92, mm_clV 95 3 2 f_X3_enter), (95, mm_go 107), (98, mm_ldR 99 0), (99, mm_gfR 102 10 8), (102, mm_ldI 103 2), (103, mm_ldI 104 1), (104, mm_clV 107 3 2 f_X3_enter), (107, mm_rtI)]
noncomputable def f_X10_record : mm_F := mm_do (mm_pr tb_X10_record) 4
theorem mn_X10_record : mm_alln tb_X10_record := ⟨mm_n_ldR _ _, mm_n_gfR _ _ _, mm_n_ldI _ _, mm_n_clV _ _ _ (mo_X3_hasPerson), mm_n_eq1 _ _, mm_n_ldR _ _, mm_n_gfR _ _ _, mm_n_ldI _ _, mm_n_clV _ _ _ (mo_X3_hasPerson), mm_n_ne1 _ _, mm_n_thr _, mm_n_ldI _ _, mm_n_ldI _ _, mm_n_ne2 _ _, mm_n_thr _, mm_n_ldR _ _, mm_n_clV _ _ _ (mo_X10_winner), mm_n_stI _ _, mm_n_ldI _ _, mm_n_k _ _, mm_n_eq2 _ _, mm_n_ldR _ _, mm_n_gfI _ _ _, mm_n_eq1 _ _, mm_n_thr _, mm_n_ldR _ _, mm_n_k _ _, mm_n_pfZ _ _ _, mm_n_ldI _ _, mm_n_ne1 _ _, mm_n_ldR _ _, mm_n_gfR _ _ _, mm_n_ldI _ _, mm_n_ldI _ _, mm_n_clV _ _ _ (mo_X3_enter), mm_n_go _, mm_n_ldR _ _, mm_n_gfR _ _ _, mm_n_ldI _ _, mm_n_ldI _ _, mm_n_clV _ _ _ (mo_X3_enter), mm_n_rtI, trivial⟩
theorem mo_X10_record : mm_Mo f_X10_record := mm_do_mo (mm_alln_mem mn_X10_record)
set_option maxRecDepth 10000 in
theorem ok_X10_record {l : Launch} (hl : l.stackTraces = false) : mm_Ok l yX10_record cX10_record 4 (some .int) 6 90 tb_X10_record := by
  refine ⟨mm_alln_mem mn_X10_record, fun p e cells slots s m args below meth c D tc A S ad Tg X hret hname htab hth => mm_allr_mem ?_⟩
  exact ⟨mm_r_aload_n X (show decode cX10_record 0 = .ok (.aload_n 0, 1) by decide +kernel) rfl,
    mm_r_gfR X (ci := 10) (p := 8) (show mm_kd 10 8 = 2 by decide +kernel) rfl (Nat.le_of_ble_eq_true rfl) (show decode cX10_record 1 = .ok (.getfield 77, 3) by decide +kernel) mw_436 rfl,
    mm_r_iload_n X (show decode cX10_record 4 = .ok (.iload_n 1, 1) by decide +kernel) rfl,
    mm_r_clV X hth (ci := 3) (na := 1) (sn_X3_hasPerson hl) rfl (show decode cX10_record 5 = .ok (.invokevirtual 351, 3) by decide +kernel) mw_657 mw_654 mw_655 mw_656 mw_55 hd_X3_hasPerson ⟨(Nat.le_of_ble_eq_true rfl), (Nat.le_of_ble_eq_true rfl)⟩,
    mm_r_eq1 X (show decode cX10_record 8 = .ok (.ifCond .eq 14, 3) by decide +kernel) (by decide),
    mm_r_aload_n X (show decode cX10_record 11 = .ok (.aload_n 0, 1) by decide +kernel) rfl,
    mm_r_gfR X (ci := 10) (p := 8) (show mm_kd 10 8 = 2 by decide +kernel) rfl (Nat.le_of_ble_eq_true rfl) (show decode cX10_record 12 = .ok (.getfield 77, 3) by decide +kernel) mw_436 rfl,
    mm_r_iload_n X (show decode cX10_record 15 = .ok (.iload_n 2, 1) by decide +kernel) rfl,
    mm_r_clV X hth (ci := 3) (na := 1) (sn_X3_hasPerson hl) rfl (show decode cX10_record 16 = .ok (.invokevirtual 351, 3) by decide +kernel) mw_657 mw_654 mw_655 mw_656 mw_55 hd_X3_hasPerson ⟨(Nat.le_of_ble_eq_true rfl), (Nat.le_of_ble_eq_true rfl)⟩,
    mm_r_ne1 X (show decode cX10_record 19 = .ok (.ifCond .ne 14, 3) by decide +kernel) (by decide),
    mm_r_thrW X htab (E := 1) (ik := 110) (is := 354) (ic := 114) (text := "there is no such person") (by decide) rfl mm_aw1 mw_569 mw_60 (by decide +kernel) (show decode cX10_record 22 = .ok (.new 110, 3) by decide +kernel) (show decode cX10_record 25 = .ok (.dup, 1) by decide +kernel) (show decode cX10_record 26 = .ok (.ldc_w 354, 3) by decide +kernel) (show decode cX10_record 29 = .ok (.invokespecial 114, 3) by decide +kernel) (show decode cX10_record 32 = .ok (.athrow, 1) by decide +kernel) (Nat.le_of_ble_eq_true rfl) (Nat.le_of_ble_eq_true rfl),
    mm_r_iload_n X (show decode cX10_record 33 = .ok (.iload_n 1, 1) by decide +kernel) rfl,
    mm_r_iload_n X (show decode cX10_record 34 = .ok (.iload_n 2, 1) by decide +kernel) rfl,
    mm_r_ne2 X (show decode cX10_record 35 = .ok (.if_icmp .ne 14, 3) by decide +kernel) (by decide),
    mm_r_thrW X htab (E := 2) (ik := 85) (is := 356) (ic := 89) (text := "both persons are the same") (by decide) rfl mm_aw2 mw_494 mw_59 (by decide +kernel) (show decode cX10_record 38 = .ok (.new 85, 3) by decide +kernel) (show decode cX10_record 41 = .ok (.dup, 1) by decide +kernel) (show decode cX10_record 42 = .ok (.ldc_w 356, 3) by decide +kernel) (show decode cX10_record 45 = .ok (.invokespecial 89, 3) by decide +kernel) (show decode cX10_record 48 = .ok (.athrow, 1) by decide +kernel) (Nat.le_of_ble_eq_true rfl) (Nat.le_of_ble_eq_true rfl),
    mm_r_aload_n X (show decode cX10_record 49 = .ok (.aload_n 0, 1) by decide +kernel) rfl,
    mm_r_clV X hth (ci := 10) (na := 0) (sn_X10_winner hl) rfl (show decode cX10_record 50 = .ok (.invokevirtual 125, 3) by decide +kernel) mw_489 mw_486 mw_488 mw_9 mw_44 hd_X10_winner ⟨(Nat.le_of_ble_eq_true rfl), (Nat.le_of_ble_eq_true rfl)⟩,
    mm_r_istore_n X (show decode cX10_record 53 = .ok (.istore_n 3, 1) by decide +kernel) rfl (Nat.le_of_ble_eq_true rfl),
    mm_r_iload_n X (show decode cX10_record 54 = .ok (.iload_n 3, 1) by decide +kernel) rfl,
    mm_r_iconst X (show decode cX10_record 55 = .ok (.iconst (-1), 1) by decide +kernel) rfl,
    mm_r_eq2 X (show decode cX10_record 56 = .ok (.if_icmp .eq 10, 3) by decide +kernel) (by decide),
    mm_r_aload_n X (show decode cX10_record 59 = .ok (.aload_n 0, 1) by decide +kernel) rfl,
    mm_r_gfI X (ci := 10) (p := 9) (show mm_kd 10 9 = 0 by decide +kernel) rfl (Nat.le_of_ble_eq_true rfl) (show decode cX10_record 60 = .ok (.getfield 98, 3) by decide +kernel) mw_437 rfl,
    mm_r_eq1 X (show decode cX10_record 63 = .ok (.ifCond .eq 14, 3) by decide +kernel) (by decide),
    mm_r_thrW X htab (E := 3) (ik := 129) (is := 358) (ic := 133) (text := "the game goes on, or was recorded") (by decide) rfl mm_aw3 mw_729 mw_62 (by decide +kernel) (show decode cX10_record 66 = .ok (.new 129, 3) by decide +kernel) (show decode cX10_record 69 = .ok (.dup, 1) by decide +kernel) (show decode cX10_record 70 = .ok (.ldc_w 358, 3) by decide +kernel) (show decode cX10_record 73 = .ok (.invokespecial 133, 3) by decide +kernel) (show decode cX10_record 76 = .ok (.athrow, 1) by decide +kernel) (Nat.le_of_ble_eq_true rfl) (Nat.le_of_ble_eq_true rfl),
    mm_r_aload_n X (show decode cX10_record 77 = .ok (.aload_n 0, 1) by decide +kernel) rfl,
    mm_r_iconst X (show decode cX10_record 78 = .ok (.iconst 1, 1) by decide +kernel) rfl,
    mm_r_pfZ X (ci := 10) (p := 9) (show mm_kd 10 9 = 0 by decide +kernel) rfl rfl (Nat.le_of_ble_eq_true rfl) (show decode cX10_record 79 = .ok (.putfield 98, 3) by decide +kernel) mw_437 rfl rfl,
    mm_r_iload_n X (show decode cX10_record 82 = .ok (.iload_n 3, 1) by decide +kernel) rfl,
    mm_r_ne1 X (show decode cX10_record 83 = .ok (.ifCond .ne 15, 3) by decide +kernel) (by decide),
    mm_r_aload_n X (show decode cX10_record 86 = .ok (.aload_n 0, 1) by decide +kernel) rfl,
    mm_r_gfR X (ci := 10) (p := 8) (show mm_kd 10 8 = 2 by decide +kernel) rfl (Nat.le_of_ble_eq_true rfl) (show decode cX10_record 87 = .ok (.getfield 77, 3) by decide +kernel) mw_436 rfl,
    mm_r_iload_n X (show decode cX10_record 90 = .ok (.iload_n 1, 1) by decide +kernel) rfl,
    mm_r_iload_n X (show decode cX10_record 91 = .ok (.iload_n 2, 1) by decide +kernel) rfl,
    mm_r_clV X hth (ci := 3) (na := 2) (sn_X3_enter hl) rfl (show decode cX10_record 92 = .ok (.invokevirtual 360, 3) by decide +kernel) mw_1074 mw_1071 mw_1072 mw_1073 mw_55 hd_X3_enter ⟨(Nat.le_of_ble_eq_true rfl), (Nat.le_of_ble_eq_true rfl)⟩,
    mm_r_goto X (show decode cX10_record 95 = .ok (.goto 12, 3) by decide +kernel) (by decide),
    mm_r_aload_n X (show decode cX10_record 98 = .ok (.aload_n 0, 1) by decide +kernel) rfl,
    mm_r_gfR X (ci := 10) (p := 8) (show mm_kd 10 8 = 2 by decide +kernel) rfl (Nat.le_of_ble_eq_true rfl) (show decode cX10_record 99 = .ok (.getfield 77, 3) by decide +kernel) mw_436 rfl,
    mm_r_iload_n X (show decode cX10_record 102 = .ok (.iload_n 2, 1) by decide +kernel) rfl,
    mm_r_iload_n X (show decode cX10_record 103 = .ok (.iload_n 1, 1) by decide +kernel) rfl,
    mm_r_clV X hth (ci := 3) (na := 2) (sn_X3_enter hl) rfl (show decode cX10_record 104 = .ok (.invokevirtual 360, 3) by decide +kernel) mw_1074 mw_1071 mw_1072 mw_1073 mw_55 hd_X3_enter ⟨(Nat.le_of_ble_eq_true rfl), (Nat.le_of_ble_eq_true rfl)⟩,
    mm_r_iret X hret (show decode cX10_record 107 = .ok (.ireturn, 1) by decide +kernel), trivial⟩
theorem sn_X10_record {l : Launch} (hl : l.stackTraces = false) : mm_Snd l yX10_record (.code yX10_record cX10_record 4 (some .int)) 6 90 f_X10_record := mm_met hl (plainFor_of_name (by decide +kernel)) (ok_X10_record hl)
/-! Linkcourt$Ladder.shown(II)I -/
noncomputable def tb_X3_shown : List (Nat × mm_I) := [(0, mm_ldR 1 0), (1, mm_ldI 2 1), (2, mm_clV 5 3 1 f_X3_hasPerson), (5, mm_ne1 10 8), (8, mm_k 9 (.int (-1))), (9, mm_rtI), (10, mm_ldI 11 2), (11, mm_ne1 23 14), (14, mm_ldR 15 0), (15, mm_gfR 18 3 0), (18, mm_ldI 19 1), (19, mm_ald 20 0), (20, mm_go 57), (23, mm_ldI 24 2), (24, mm_k 25 (.int 1)), (25, mm_ne2 37 28), (28, mm_ldR 29 0), (29, mm_gfR 32 3 1), (32, mm_ldI 33 1), (33, mm_ald 34 0), (34, mm_go 57), (37, mm_ldI 38 2), (38, mm_k 39 (.int 2)), (39, mm_ne2 51 42), (42, mm_ldR 43 0), (43, mm_gfR 46 3 2), (46, mm_ldI 47 1), (47, mm_ald 48 0), (48, mm_go 57), (51, mm_ldR 52 0), (52, mm_gfR 55 3 3), (55, mm_ldI 56 1), (56, mm_ald 57 0), (57, mm_rtI)]
noncomputable def f_X3_shown : mm_F := mm_do (mm_pr tb_X3_shown) 3
theorem mn_X3_shown : mm_alln tb_X3_shown := ⟨mm_n_ldR _ _, mm_n_ldI _ _, mm_n_clV _ _ _ (mo_X3_hasPerson), mm_n_ne1 _ _, mm_n_k _ _, mm_n_rtI, mm_n_ldI _ _, mm_n_ne1 _ _, mm_n_ldR _ _, mm_n_gfR _ _ _, mm_n_ldI _ _, mm_n_ald _ _, mm_n_go _, mm_n_ldI _ _, mm_n_k _ _, mm_n_ne2 _ _, mm_n_ldR _ _, mm_n_gfR _ _ _, mm_n_ldI _ _, mm_n_ald _ _, mm_n_go _, mm_n_ldI _ _, mm_n_k _ _, mm_n_ne2 _ _, mm_n_ldR _ _, mm_n_gfR _ _ _, mm_n_ldI _ _, mm_n_ald _ _, mm_n_go _, mm_n_ldR _ _, mm_n_gfR _ _ _, mm_n_ldI _ _, mm_n_ald _ _, mm_n_rtI, trivial⟩
theorem mo_X3_shown : mm_Mo f_X3_shown := mm_do_mo (mm_alln_mem mn_X3_shown)
set_option maxRecDepth 10000 in
theorem ok_X3_shown {l : Launch} (hl : l.stackTraces = false) : mm_Ok l yX3_shown cX3_shown 3 (some .int) 2 41 tb_X3_shown := by
  refine ⟨mm_alln_mem mn_X3_shown, fun p e cells slots s m args below meth c D tc A S ad Tg X hret hname htab hth => mm_allr_mem ?_⟩
  exact ⟨mm_r_aload_n X (show decode cX3_shown 0 = .ok (.aload_n 0, 1) by decide +kernel) rfl,
    mm_r_iload_n X (show decode cX3_shown 1 = .ok (.iload_n 1, 1) by decide +kernel) rfl,
    mm_r_clV X hth (ci := 3) (na := 1) (sn_X3_hasPerson hl) rfl (show decode cX3_shown 2 = .ok (.invokevirtual 28, 3) by decide +kernel) mw_657 mw_663 mw_655 mw_656 mw_55 hd_X3_hasPerson ⟨(Nat.le_of_ble_eq_true rfl), (Nat.le_of_ble_eq_true rfl)⟩,
    mm_r_ne1 X (show decode cX3_shown 5 = .ok (.ifCond .ne 5, 3) by decide +kernel) (by decide),
    mm_r_iconst X (show decode cX3_shown 8 = .ok (.iconst (-1), 1) by decide +kernel) rfl,
    mm_r_iret X hret (show decode cX3_shown 9 = .ok (.ireturn, 1) by decide +kernel),
    mm_r_iload_n X (show decode cX3_shown 10 = .ok (.iload_n 2, 1) by decide +kernel) rfl,
    mm_r_ne1 X (show decode cX3_shown 11 = .ok (.ifCond .ne 12, 3) by decide +kernel) (by decide),
    mm_r_aload_n X (show decode cX3_shown 14 = .ok (.aload_n 0, 1) by decide +kernel) rfl,
    mm_r_gfR X (ci := 3) (p := 0) (show mm_kd 3 0 = 2 by decide +kernel) rfl (Nat.le_of_ble_eq_true rfl) (show decode cX3_shown 15 = .ok (.getfield 11, 3) by decide +kernel) mw_411 rfl,
    mm_r_iload_n X (show decode cX3_shown 18 = .ok (.iload_n 1, 1) by decide +kernel) rfl,
    mm_r_iald X (show decode cX3_shown 19 = .ok (.iaload, 1) by decide +kernel),
    mm_r_goto X (show decode cX3_shown 20 = .ok (.goto 37, 3) by decide +kernel) (by decide),
    mm_r_iload_n X (show decode cX3_shown 23 = .ok (.iload_n 2, 1) by decide +kernel) rfl,
    mm_r_iconst X (show decode cX3_shown 24 = .ok (.iconst 1, 1) by decide +kernel) rfl,
    mm_r_ne2 X (show decode cX3_shown 25 = .ok (.if_icmp .ne 12, 3) by decide +kernel) (by decide),
    mm_r_aload_n X (show decode cX3_shown 28 = .ok (.aload_n 0, 1) by decide +kernel) rfl,
    mm_r_gfR X (ci := 3) (p := 1) (show mm_kd 3 1 = 2 by decide +kernel) rfl (Nat.le_of_ble_eq_true rfl) (show decode cX3_shown 29 = .ok (.getfield 15, 3) by decide +kernel) mw_412 rfl,
    mm_r_iload_n X (show decode cX3_shown 32 = .ok (.iload_n 1, 1) by decide +kernel) rfl,
    mm_r_iald X (show decode cX3_shown 33 = .ok (.iaload, 1) by decide +kernel),
    mm_r_goto X (show decode cX3_shown 34 = .ok (.goto 23, 3) by decide +kernel) (by decide),
    mm_r_iload_n X (show decode cX3_shown 37 = .ok (.iload_n 2, 1) by decide +kernel) rfl,
    mm_r_iconst X (show decode cX3_shown 38 = .ok (.iconst 2, 1) by decide +kernel) rfl,
    mm_r_ne2 X (show decode cX3_shown 39 = .ok (.if_icmp .ne 12, 3) by decide +kernel) (by decide),
    mm_r_aload_n X (show decode cX3_shown 42 = .ok (.aload_n 0, 1) by decide +kernel) rfl,
    mm_r_gfR X (ci := 3) (p := 2) (show mm_kd 3 2 = 2 by decide +kernel) rfl (Nat.le_of_ble_eq_true rfl) (show decode cX3_shown 43 = .ok (.getfield 18, 3) by decide +kernel) mw_413 rfl,
    mm_r_iload_n X (show decode cX3_shown 46 = .ok (.iload_n 1, 1) by decide +kernel) rfl,
    mm_r_iald X (show decode cX3_shown 47 = .ok (.iaload, 1) by decide +kernel),
    mm_r_goto X (show decode cX3_shown 48 = .ok (.goto 9, 3) by decide +kernel) (by decide),
    mm_r_aload_n X (show decode cX3_shown 51 = .ok (.aload_n 0, 1) by decide +kernel) rfl,
    mm_r_gfR X (ci := 3) (p := 3) (show mm_kd 3 3 = 2 by decide +kernel) rfl (Nat.le_of_ble_eq_true rfl) (show decode cX3_shown 52 = .ok (.getfield 21, 3) by decide +kernel) mw_414 rfl,
    mm_r_iload_n X (show decode cX3_shown 55 = .ok (.iload_n 1, 1) by decide +kernel) rfl,
    mm_r_iald X (show decode cX3_shown 56 = .ok (.iaload, 1) by decide +kernel),
    mm_r_iret X hret (show decode cX3_shown 57 = .ok (.ireturn, 1) by decide +kernel), trivial⟩
theorem sn_X3_shown {l : Launch} (hl : l.stackTraces = false) : mm_Snd l yX3_shown (.code yX3_shown cX3_shown 3 (some .int)) 2 41 f_X3_shown := mm_met hl (plainFor_of_name (by decide +kernel)) (ok_X3_shown hl)
/-! Linkcourt.ofPerson(II)I -/
noncomputable def tb_X10_ofPerson : List (Nat × mm_I) := [(0, mm_ldR 1 0), (1, mm_gfR 4 10 8), (4, mm_ldI 5 1), (5, mm_clV 8 3 1 f_X3_hasPerson), (8, mm_ne1 22 11), (11, mm_thr 1), (22, mm_ldI 23 2), (23, mm_lt1 31 26), (26, mm_ldI 27 2), (27, mm_k 28 (.int 3)), (28, mm_le2 41 31), (31, mm_thr 2), (41, mm_ldR 42 0), (42, mm_gfR 45 10 8), (45, mm_ldI 46 1), (46, mm_ldI 47 2), (47, mm_clV 50 3 2 f_X3_shown), (50, mm_rtI)]
noncomputable def f_X10_ofPerson : mm_F := mm_do (mm_pr tb_X10_ofPerson) 3
theorem mn_X10_ofPerson : mm_alln tb_X10_ofPerson := ⟨mm_n_ldR _ _, mm_n_gfR _ _ _, mm_n_ldI _ _, mm_n_clV _ _ _ (mo_X3_hasPerson), mm_n_ne1 _ _, mm_n_thr _, mm_n_ldI _ _, mm_n_lt1 _ _, mm_n_ldI _ _, mm_n_k _ _, mm_n_le2 _ _, mm_n_thr _, mm_n_ldR _ _, mm_n_gfR _ _ _, mm_n_ldI _ _, mm_n_ldI _ _, mm_n_clV _ _ _ (mo_X3_shown), mm_n_rtI, trivial⟩
theorem mo_X10_ofPerson : mm_Mo f_X10_ofPerson := mm_do_mo (mm_alln_mem mn_X10_ofPerson)
set_option maxRecDepth 10000 in
theorem ok_X10_ofPerson {l : Launch} (hl : l.stackTraces = false) : mm_Ok l yX10_ofPerson cX10_ofPerson 3 (some .int) 6 90 tb_X10_ofPerson := by
  refine ⟨mm_alln_mem mn_X10_ofPerson, fun p e cells slots s m args below meth c D tc A S ad Tg X hret hname htab hth => mm_allr_mem ?_⟩
  exact ⟨mm_r_aload_n X (show decode cX10_ofPerson 0 = .ok (.aload_n 0, 1) by decide +kernel) rfl,
    mm_r_gfR X (ci := 10) (p := 8) (show mm_kd 10 8 = 2 by decide +kernel) rfl (Nat.le_of_ble_eq_true rfl) (show decode cX10_ofPerson 1 = .ok (.getfield 77, 3) by decide +kernel) mw_436 rfl,
    mm_r_iload_n X (show decode cX10_ofPerson 4 = .ok (.iload_n 1, 1) by decide +kernel) rfl,
    mm_r_clV X hth (ci := 3) (na := 1) (sn_X3_hasPerson hl) rfl (show decode cX10_ofPerson 5 = .ok (.invokevirtual 351, 3) by decide +kernel) mw_657 mw_654 mw_655 mw_656 mw_55 hd_X3_hasPerson ⟨(Nat.le_of_ble_eq_true rfl), (Nat.le_of_ble_eq_true rfl)⟩,
    mm_r_ne1 X (show decode cX10_ofPerson 8 = .ok (.ifCond .ne 14, 3) by decide +kernel) (by decide),
    mm_r_thrW X htab (E := 1) (ik := 110) (is := 354) (ic := 114) (text := "there is no such person") (by decide) rfl mm_aw1 mw_569 mw_60 (by decide +kernel) (show decode cX10_ofPerson 11 = .ok (.new 110, 3) by decide +kernel) (show decode cX10_ofPerson 14 = .ok (.dup, 1) by decide +kernel) (show decode cX10_ofPerson 15 = .ok (.ldc_w 354, 3) by decide +kernel) (show decode cX10_ofPerson 18 = .ok (.invokespecial 114, 3) by decide +kernel) (show decode cX10_ofPerson 21 = .ok (.athrow, 1) by decide +kernel) (Nat.le_of_ble_eq_true rfl) (Nat.le_of_ble_eq_true rfl),
    mm_r_iload_n X (show decode cX10_ofPerson 22 = .ok (.iload_n 2, 1) by decide +kernel) rfl,
    mm_r_lt1 X (show decode cX10_ofPerson 23 = .ok (.ifCond .lt 8, 3) by decide +kernel) (by decide),
    mm_r_iload_n X (show decode cX10_ofPerson 26 = .ok (.iload_n 2, 1) by decide +kernel) rfl,
    mm_r_iconst X (show decode cX10_ofPerson 27 = .ok (.iconst 3, 1) by decide +kernel) rfl,
    mm_r_le2 X (show decode cX10_ofPerson 28 = .ok (.if_icmp .le 13, 3) by decide +kernel) (by decide),
    mm_r_thr X htab (E := 2) (ik := 85) (is := 179) (ic := 89) (text := "what is out of range") (by decide) rfl mm_aw2 mw_494 mw_59 (by decide +kernel) (show decode cX10_ofPerson 31 = .ok (.new 85, 3) by decide +kernel) (show decode cX10_ofPerson 34 = .ok (.dup, 1) by decide +kernel) (show decode cX10_ofPerson 35 = .ok (.ldc 179, 2) by decide +kernel) (show decode cX10_ofPerson 37 = .ok (.invokespecial 89, 3) by decide +kernel) (show decode cX10_ofPerson 40 = .ok (.athrow, 1) by decide +kernel) (Nat.le_of_ble_eq_true rfl) (Nat.le_of_ble_eq_true rfl),
    mm_r_aload_n X (show decode cX10_ofPerson 41 = .ok (.aload_n 0, 1) by decide +kernel) rfl,
    mm_r_gfR X (ci := 10) (p := 8) (show mm_kd 10 8 = 2 by decide +kernel) rfl (Nat.le_of_ble_eq_true rfl) (show decode cX10_ofPerson 42 = .ok (.getfield 77, 3) by decide +kernel) mw_436 rfl,
    mm_r_iload_n X (show decode cX10_ofPerson 45 = .ok (.iload_n 1, 1) by decide +kernel) rfl,
    mm_r_iload_n X (show decode cX10_ofPerson 46 = .ok (.iload_n 2, 1) by decide +kernel) rfl,
    mm_r_clV X hth (ci := 3) (na := 2) (sn_X3_shown hl) rfl (show decode cX10_ofPerson 47 = .ok (.invokevirtual 363, 3) by decide +kernel) mw_662 mw_659 mw_660 mw_661 mw_55 hd_X3_shown ⟨(Nat.le_of_ble_eq_true rfl), (Nat.le_of_ble_eq_true rfl)⟩,
    mm_r_iret X hret (show decode cX10_ofPerson 50 = .ok (.ireturn, 1) by decide +kernel), trivial⟩
theorem sn_X10_ofPerson {l : Launch} (hl : l.stackTraces = false) : mm_Snd l yX10_ofPerson (.code yX10_ofPerson cX10_ofPerson 3 (some .int)) 6 90 f_X10_ofPerson := mm_met hl (plainFor_of_name (by decide +kernel)) (ok_X10_ofPerson hl)
