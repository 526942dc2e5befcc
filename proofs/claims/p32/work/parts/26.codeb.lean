/-! codes: by program (wip/p32/gen/gencode.py) -/
/-! Linkcourt$Patterns.append(JI)V -/
noncomputable def tb_X5_append : List (Nat × mm_I) := [(0, mm_k 1 (.int 0)), (1, mm_stI 3 4), (3, mm_ldI 5 4), (5, mm_ldI 6 3), (6, mm_ge2 64 9), (9, mm_ldI 11 4), (11, mm_k 13 (.int 8)), (13, mm_ge2 64 16), (16, mm_ldR 17 0), (17, mm_gfI 20 5 6), (20, mm_lt1 64 23), (23, mm_ldR 24 0), (24, mm_gfI 27 5 6), (27, mm_k 29 (.int 30)), (29, mm_ge2 64 32), (32, mm_ldR 33 0), (33, mm_gfR 36 5 1), (36, mm_ldR 37 0), (37, mm_gfI 40 5 6), (40, mm_ldR 41 0), (41, mm_ldJ 42 1), (42, mm_ldI 44 4), (44, mm_clV 47 5 2 f_X5_signOf), (47, mm_ast 48 3 (fun v => v.toUInt32.toUInt16.toUInt32.toInt32)), (48, mm_ldR 49 0), (49, mm_dup 50), (50, mm_gfI 53 5 6), (53, mm_k 54 (.int 1)), (54, mm_i2 55 (fun a b => a + b)), (55, mm_pfI 58 5 6), (58, mm_inc 61 4 1), (61, mm_go 3), (64, mm_rtV)]
noncomputable def f_X5_append : mm_F := mm_do (mm_pr tb_X5_append) 5
theorem mn_X5_append : mm_alln tb_X5_append := ⟨mm_n_k _ _, mm_n_stI _ _, mm_n_ldI _ _, mm_n_ldI _ _, mm_n_ge2 _ _, mm_n_ldI _ _, mm_n_k _ _, mm_n_ge2 _ _, mm_n_ldR _ _, mm_n_gfI _ _ _, mm_n_lt1 _ _, mm_n_ldR _ _, mm_n_gfI _ _ _, mm_n_k _ _, mm_n_ge2 _ _, mm_n_ldR _ _, mm_n_gfR _ _ _, mm_n_ldR _ _, mm_n_gfI _ _ _, mm_n_ldR _ _, mm_n_ldJ _ _, mm_n_ldI _ _, mm_n_clV _ _ _ (mo_X5_signOf), mm_n_ast _ _ _, mm_n_ldR _ _, mm_n_dup _, mm_n_gfI _ _ _, mm_n_k _ _, mm_n_i2 _ _, mm_n_pfI _ _ _, mm_n_inc _ _ _, mm_n_go _, mm_n_rtV, trivial⟩
theorem mo_X5_append : mm_Mo f_X5_append := mm_do_mo (mm_alln_mem mn_X5_append)
set_option maxRecDepth 10000 in
theorem ok_X5_append {l : Launch} (hl : l.stackTraces = false) : mm_Ok l yX5_append cX5_append 5 none 2 43 tb_X5_append := by
  refine ⟨mm_alln_mem mn_X5_append, fun p e cells slots s m args below meth c D tc A S ad Tg X hret hname htab hth => mm_allr_mem ?_⟩
  exact ⟨mm_r_iconst X (show decode cX5_append 0 = .ok (.iconst 0, 1) by decide +kernel) rfl,
    mm_r_istore X (show decode cX5_append 1 = .ok (.istore 4, 2) by decide +kernel) (Nat.le_of_ble_eq_true rfl),
    mm_r_iload X (show decode cX5_append 3 = .ok (.iload 4, 2) by decide +kernel),
    mm_r_iload_n X (show decode cX5_append 5 = .ok (.iload_n 3, 1) by decide +kernel) rfl,
    mm_r_ge2 X (show decode cX5_append 6 = .ok (.if_icmp .ge 58, 3) by decide +kernel) (by decide),
    mm_r_iload X (show decode cX5_append 9 = .ok (.iload 4, 2) by decide +kernel),
    mm_r_bipush X (show decode cX5_append 11 = .ok (.bipush 8, 2) by decide +kernel) rfl,
    mm_r_ge2 X (show decode cX5_append 13 = .ok (.if_icmp .ge 51, 3) by decide +kernel) (by decide),
    mm_r_aload_n X (show decode cX5_append 16 = .ok (.aload_n 0, 1) by decide +kernel) rfl,
    mm_r_gfI X (ci := 5) (p := 6) (show mm_kd 5 6 = 0 by decide +kernel) rfl (Nat.le_of_ble_eq_true rfl) (show decode cX5_append 17 = .ok (.getfield 40, 3) by decide +kernel) mw_356 rfl,
    mm_r_lt1 X (show decode cX5_append 20 = .ok (.ifCond .lt 44, 3) by decide +kernel) (by decide),
    mm_r_aload_n X (show decode cX5_append 23 = .ok (.aload_n 0, 1) by decide +kernel) rfl,
    mm_r_gfI X (ci := 5) (p := 6) (show mm_kd 5 6 = 0 by decide +kernel) rfl (Nat.le_of_ble_eq_true rfl) (show decode cX5_append 24 = .ok (.getfield 40, 3) by decide +kernel) mw_356 rfl,
    mm_r_bipush X (show decode cX5_append 27 = .ok (.bipush 30, 2) by decide +kernel) rfl,
    mm_r_ge2 X (show decode cX5_append 29 = .ok (.if_icmp .ge 35, 3) by decide +kernel) (by decide),
    mm_r_aload_n X (show decode cX5_append 32 = .ok (.aload_n 0, 1) by decide +kernel) rfl,
    mm_r_gfR X (ci := 5) (p := 1) (show mm_kd 5 1 = 2 by decide +kernel) rfl (Nat.le_of_ble_eq_true rfl) (show decode cX5_append 33 = .ok (.getfield 11, 3) by decide +kernel) mw_351 rfl,
    mm_r_aload_n X (show decode cX5_append 36 = .ok (.aload_n 0, 1) by decide +kernel) rfl,
    mm_r_gfI X (ci := 5) (p := 6) (show mm_kd 5 6 = 0 by decide +kernel) rfl (Nat.le_of_ble_eq_true rfl) (show decode cX5_append 37 = .ok (.getfield 40, 3) by decide +kernel) mw_356 rfl,
    mm_r_aload_n X (show decode cX5_append 40 = .ok (.aload_n 0, 1) by decide +kernel) rfl,
    mm_r_lload_n X (show decode cX5_append 41 = .ok (.lload_n 1, 1) by decide +kernel) rfl,
    mm_r_iload X (show decode cX5_append 42 = .ok (.iload 4, 2) by decide +kernel),
    mm_r_clV X hth (ci := 5) (na := 2) (sn_X5_signOf hl) rfl (show decode cX5_append 44 = .ok (.invokevirtual 32, 3) by decide +kernel) mw_1172 mw_1169 mw_1171 mw_42 mw_53 hd_X5_signOf ⟨(Nat.le_of_ble_eq_true rfl), (Nat.le_of_ble_eq_true rfl)⟩,
    mm_r_cast X (show decode cX5_append 47 = .ok (.castore, 1) by decide +kernel),
    mm_r_aload_n X (show decode cX5_append 48 = .ok (.aload_n 0, 1) by decide +kernel) rfl,
    mm_r_dup X (show decode cX5_append 49 = .ok (.dup, 1) by decide +kernel),
    mm_r_gfI X (ci := 5) (p := 6) (show mm_kd 5 6 = 0 by decide +kernel) rfl (Nat.le_of_ble_eq_true rfl) (show decode cX5_append 50 = .ok (.getfield 40, 3) by decide +kernel) mw_356 rfl,
    mm_r_iconst X (show decode cX5_append 53 = .ok (.iconst 1, 1) by decide +kernel) rfl,
    mm_r_iadd X (show decode cX5_append 54 = .ok (.iadd, 1) by decide +kernel),
    mm_r_pfI X (ci := 5) (p := 6) (show mm_kd 5 6 = 0 by decide +kernel) rfl rfl (Nat.le_of_ble_eq_true rfl) (show decode cX5_append 55 = .ok (.putfield 40, 3) by decide +kernel) mw_356 rfl rfl,
    mm_r_iinc X (show decode cX5_append 58 = .ok (.iinc 4 1, 3) by decide +kernel) rfl (Nat.le_of_ble_eq_true rfl),
    mm_r_goto X (show decode cX5_append 61 = .ok (.goto (-58), 3) by decide +kernel) (by decide),
    mm_r_vret X hret (show decode cX5_append 64 = .ok (.return_, 1) by decide +kernel), trivial⟩
theorem sn_X5_append {l : Launch} (hl : l.stackTraces = false) : mm_Snd l yX5_append (.code yX5_append cX5_append 5 none) 2 43 f_X5_append := mm_met hl (plainFor_of_name (by decide +kernel)) (ok_X5_append hl)
/-! Linkcourt.type(JI)I -/
noncomputable def tb_X10_type : List (Nat × mm_I) := [(0, mm_ldI 1 3), (1, mm_k 2 (.int 1)), (2, mm_lt2 23 5), (5, mm_ldI 6 3), (6, mm_k 8 (.int 8)), (8, mm_gt2 23 11), (11, mm_ldR 12 0), (12, mm_gfR 15 10 6), (15, mm_ldJ 16 1), (16, mm_ldI 17 3), (17, mm_clV 20 5 2 f_X5_canType), (20, mm_ne1 34 23), (23, mm_thr 2), (34, mm_ldR 35 0), (35, mm_gfR 38 10 6), (38, mm_gfI 41 5 6), (41, mm_ldI 42 3), (42, mm_i2 43 (fun a b => a + b)), (43, mm_k 45 (.int 30)), (45, mm_le2 59 48), (48, mm_thr 3), (59, mm_ldR 60 0), (60, mm_gfR 63 10 6), (63, mm_ldJ 64 1), (64, mm_ldI 65 3), (65, mm_clV 68 5 2 f_X5_append), (68, mm_ldR 69 0), (69, mm_gfR 72 10 6), (72, mm_gfI 75 5 6), (75, mm_rtI)]
noncomputable def f_X10_type : mm_F := mm_do (mm_pr tb_X10_type) 4
theorem mn_X10_type : mm_alln tb_X10_type := ⟨mm_n_ldI _ _, mm_n_k _ _, mm_n_lt2 _ _, mm_n_ldI _ _, mm_n_k _ _, mm_n_gt2 _ _, mm_n_ldR _ _, mm_n_gfR _ _ _, mm_n_ldJ _ _, mm_n_ldI _ _, mm_n_clV _ _ _ (mo_X5_canType), mm_n_ne1 _ _, mm_n_thr _, mm_n_ldR _ _, mm_n_gfR _ _ _, mm_n_gfI _ _ _, mm_n_ldI _ _, mm_n_i2 _ _, mm_n_k _ _, mm_n_le2 _ _, mm_n_thr _, mm_n_ldR _ _, mm_n_gfR _ _ _, mm_n_ldJ _ _, mm_n_ldI _ _, mm_n_clV _ _ _ (mo_X5_append), mm_n_ldR _ _, mm_n_gfR _ _ _, mm_n_gfI _ _ _, mm_n_rtI, trivial⟩
theorem mo_X10_type : mm_Mo f_X10_type := mm_do_mo (mm_alln_mem mn_X10_type)
set_option maxRecDepth 10000 in
theorem ok_X10_type {l : Launch} (hl : l.stackTraces = false) : mm_Ok l yX10_type cX10_type 4 (some .int) 6 90 tb_X10_type := by
  refine ⟨mm_alln_mem mn_X10_type, fun p e cells slots s m args below meth c D tc A S ad Tg X hret hname htab hth => mm_allr_mem ?_⟩
  exact ⟨mm_r_iload_n X (show decode cX10_type 0 = .ok (.iload_n 3, 1) by decide +kernel) rfl,
    mm_r_iconst X (show decode cX10_type 1 = .ok (.iconst 1, 1) by decide +kernel) rfl,
    mm_r_lt2 X (show decode cX10_type 2 = .ok (.if_icmp .lt 21, 3) by decide +kernel) (by decide),
    mm_r_iload_n X (show decode cX10_type 5 = .ok (.iload_n 3, 1) by decide +kernel) rfl,
    mm_r_bipush X (show decode cX10_type 6 = .ok (.bipush 8, 2) by decide +kernel) rfl,
    mm_r_gt2 X (show decode cX10_type 8 = .ok (.if_icmp .gt 15, 3) by decide +kernel) (by decide),
    mm_r_aload_n X (show decode cX10_type 11 = .ok (.aload_n 0, 1) by decide +kernel) rfl,
    mm_r_gfR X (ci := 10) (p := 6) (show mm_kd 10 6 = 2 by decide +kernel) rfl (Nat.le_of_ble_eq_true rfl) (show decode cX10_type 12 = .ok (.getfield 63, 3) by decide +kernel) mw_434 rfl,
    mm_r_lload_n X (show decode cX10_type 15 = .ok (.lload_n 1, 1) by decide +kernel) rfl,
    mm_r_iload_n X (show decode cX10_type 16 = .ok (.iload_n 3, 1) by decide +kernel) rfl,
    mm_r_clV X hth (ci := 5) (na := 2) (sn_X5_canType hl) rfl (show decode cX10_type 17 = .ok (.invokevirtual 285, 3) by decide +kernel) mw_1168 mw_1165 mw_1166 mw_1167 mw_53 hd_X5_canType ⟨(Nat.le_of_ble_eq_true rfl), (Nat.le_of_ble_eq_true rfl)⟩,
    mm_r_ne1 X (show decode cX10_type 20 = .ok (.ifCond .ne 14, 3) by decide +kernel) (by decide),
    mm_r_thrW X htab (E := 2) (ik := 85) (is := 288) (ic := 89) (text := "these are no characters of the tape") (by decide) rfl mm_aw2 mw_494 mw_59 (by decide +kernel) (show decode cX10_type 23 = .ok (.new 85, 3) by decide +kernel) (show decode cX10_type 26 = .ok (.dup, 1) by decide +kernel) (show decode cX10_type 27 = .ok (.ldc_w 288, 3) by decide +kernel) (show decode cX10_type 30 = .ok (.invokespecial 89, 3) by decide +kernel) (show decode cX10_type 33 = .ok (.athrow, 1) by decide +kernel) (Nat.le_of_ble_eq_true rfl) (Nat.le_of_ble_eq_true rfl),
    mm_r_aload_n X (show decode cX10_type 34 = .ok (.aload_n 0, 1) by decide +kernel) rfl,
    mm_r_gfR X (ci := 10) (p := 6) (show mm_kd 10 6 = 2 by decide +kernel) rfl (Nat.le_of_ble_eq_true rfl) (show decode cX10_type 35 = .ok (.getfield 63, 3) by decide +kernel) mw_434 rfl,
    mm_r_gfI X (ci := 5) (p := 6) (show mm_kd 5 6 = 0 by decide +kernel) rfl (Nat.le_of_ble_eq_true rfl) (show decode cX10_type 38 = .ok (.getfield 290, 3) by decide +kernel) mw_357 rfl,
    mm_r_iload_n X (show decode cX10_type 41 = .ok (.iload_n 3, 1) by decide +kernel) rfl,
    mm_r_iadd X (show decode cX10_type 42 = .ok (.iadd, 1) by decide +kernel),
    mm_r_bipush X (show decode cX10_type 43 = .ok (.bipush 30, 2) by decide +kernel) rfl,
    mm_r_le2 X (show decode cX10_type 45 = .ok (.if_icmp .le 14, 3) by decide +kernel) (by decide),
    mm_r_thrW X htab (E := 3) (ik := 129) (is := 293) (ic := 133) (text := "the tape would be too long") (by decide) rfl mm_aw3 mw_729 mw_62 (by decide +kernel) (show decode cX10_type 48 = .ok (.new 129, 3) by decide +kernel) (show decode cX10_type 51 = .ok (.dup, 1) by decide +kernel) (show decode cX10_type 52 = .ok (.ldc_w 293, 3) by decide +kernel) (show decode cX10_type 55 = .ok (.invokespecial 133, 3) by decide +kernel) (show decode cX10_type 58 = .ok (.athrow, 1) by decide +kernel) (Nat.le_of_ble_eq_true rfl) (Nat.le_of_ble_eq_true rfl),
    mm_r_aload_n X (show decode cX10_type 59 = .ok (.aload_n 0, 1) by decide +kernel) rfl,
    mm_r_gfR X (ci := 10) (p := 6) (show mm_kd 10 6 = 2 by decide +kernel) rfl (Nat.le_of_ble_eq_true rfl) (show decode cX10_type 60 = .ok (.getfield 63, 3) by decide +kernel) mw_434 rfl,
    mm_r_lload_n X (show decode cX10_type 63 = .ok (.lload_n 1, 1) by decide +kernel) rfl,
    mm_r_iload_n X (show decode cX10_type 64 = .ok (.iload_n 3, 1) by decide +kernel) rfl,
    mm_r_clV X hth (ci := 5) (na := 2) (sn_X5_append hl) rfl (show decode cX10_type 65 = .ok (.invokevirtual 295, 3) by decide +kernel) mw_1179 mw_1176 mw_1177 mw_1178 mw_53 hd_X5_append ⟨(Nat.le_of_ble_eq_true rfl), (Nat.le_of_ble_eq_true rfl)⟩,
    mm_r_aload_n X (show decode cX10_type 68 = .ok (.aload_n 0, 1) by decide +kernel) rfl,
    mm_r_gfR X (ci := 10) (p := 6) (show mm_kd 10 6 = 2 by decide +kernel) rfl (Nat.le_of_ble_eq_true rfl) (show decode cX10_type 69 = .ok (.getfield 63, 3) by decide +kernel) mw_434 rfl,
    mm_r_gfI X (ci := 5) (p := 6) (show mm_kd 5 6 = 0 by decide +kernel) rfl (Nat.le_of_ble_eq_true rfl) (show decode cX10_type 72 = .ok (.getfield 290, 3) by decide +kernel) mw_357 rfl,
    mm_r_iret X hret (show decode cX10_type 75 = .ok (.ireturn, 1) by decide +kernel), trivial⟩
theorem sn_X10_type {l : Launch} (hl : l.stackTraces = false) : mm_Snd l yX10_type (.code yX10_type cX10_type 4 (some .int)) 6 90 f_X10_type := mm_met hl (plainFor_of_name (by decide +kernel)) (ok_X10_type hl)
/-! Linkcourt.wipe()I -/
noncomputable def tb_X10_wipe : List (Nat × mm_I) := [(0, mm_ldR 1 0), (1, mm_gfR 4 10 6), (4, mm_gfI 7 5 6), (7, mm_stI 8 1), (8, mm_ldR 9 0), (9, mm_gfR 12 10 6), (12, mm_k 13 (.int 0)), (13, mm_pfI 16 5 6), (16, mm_ldI 17 1), (17, mm_rtI)]
noncomputable def f_X10_wipe : mm_F := mm_do (mm_pr tb_X10_wipe) 2
theorem mn_X10_wipe : mm_alln tb_X10_wipe := ⟨mm_n_ldR _ _, mm_n_gfR _ _ _, mm_n_gfI _ _ _, mm_n_stI _ _, mm_n_ldR _ _, mm_n_gfR _ _ _, mm_n_k _ _, mm_n_pfI _ _ _, mm_n_ldI _ _, mm_n_rtI, trivial⟩
theorem mo_X10_wipe : mm_Mo f_X10_wipe := mm_do_mo (mm_alln_mem mn_X10_wipe)
set_option maxRecDepth 10000 in
theorem ok_X10_wipe {l : Launch} (hl : l.stackTraces = false) : mm_Ok l yX10_wipe cX10_wipe 2 (some .int) 1 20 tb_X10_wipe := by
  refine ⟨mm_alln_mem mn_X10_wipe, fun p e cells slots s m args below meth c D tc A S ad Tg X hret hname htab hth => mm_allr_mem ?_⟩
  exact ⟨mm_r_aload_n X (show decode cX10_wipe 0 = .ok (.aload_n 0, 1) by decide +kernel) rfl,
    mm_r_gfR X (ci := 10) (p := 6) (show mm_kd 10 6 = 2 by decide +kernel) rfl (Nat.le_of_ble_eq_true rfl) (show decode cX10_wipe 1 = .ok (.getfield 63, 3) by decide +kernel) mw_434 rfl,
    mm_r_gfI X (ci := 5) (p := 6) (show mm_kd 5 6 = 0 by decide +kernel) rfl (Nat.le_of_ble_eq_true rfl) (show decode cX10_wipe 4 = .ok (.getfield 290, 3) by decide +kernel) mw_357 rfl,
    mm_r_istore_n X (show decode cX10_wipe 7 = .ok (.istore_n 1, 1) by decide +kernel) rfl (Nat.le_of_ble_eq_true rfl),
    mm_r_aload_n X (show decode cX10_wipe 8 = .ok (.aload_n 0, 1) by decide +kernel) rfl,
    mm_r_gfR X (ci := 10) (p := 6) (show mm_kd 10 6 = 2 by decide +kernel) rfl (Nat.le_of_ble_eq_true rfl) (show decode cX10_wipe 9 = .ok (.getfield 63, 3) by decide +kernel) mw_434 rfl,
    mm_r_iconst X (show decode cX10_wipe 12 = .ok (.iconst 0, 1) by decide +kernel) rfl,
    mm_r_pfI X (ci := 5) (p := 6) (show mm_kd 5 6 = 0 by decide +kernel) rfl rfl (Nat.le_of_ble_eq_true rfl) (show decode cX10_wipe 13 = .ok (.putfield 290, 3) by decide +kernel) mw_357 rfl rfl,
    mm_r_iload_n X (show decode cX10_wipe 16 = .ok (.iload_n 1, 1) by decide +kernel) rfl,
    mm_r_iret X hret (show decode cX10_wipe 17 = .ok (.ireturn, 1) by decide +kernel), trivial⟩
theorem sn_X10_wipe {l : Launch} (hl : l.stackTraces = false) : mm_Snd l yX10_wipe (.code yX10_wipe cX10_wipe 2 (some .int)) 1 20 f_X10_wipe := mm_met hl (plainFor_of_name (by decide +kernel)) (ok_X10_wipe hl)
/-! Linkcourt$Patterns.firstFault()I -/
noncomputable def tb_X5_firstFault : List (Nat × mm_I) := [(0, mm_k 1 (.int 0)), (1, mm_stI 2 1), (2, mm_k 3 (.int 0)), (3, mm_stI 4 2), (4, mm_ldI 5 2), (5, mm_ldR 6 0), (6, mm_gfI 9 5 6), (9, mm_ge2 84 12), (12, mm_ldI 13 2), (13, mm_k 15 (.int 30)), (15, mm_ge2 84 18), (18, mm_ldR 19 0), (19, mm_gfR 22 5 1), (22, mm_ldI 23 2), (23, mm_ald 24 3), (24, mm_stI 25 3), (25, mm_ldI 26 1), (26, mm_k 28 (.int 6)), (28, mm_lt2 42 31), (31, mm_ldI 32 3), (32, mm_k 34 (.int 124)), (34, mm_ne2 42 37), (37, mm_k 38 (.int 0)), (38, mm_stI 39 1), (39, mm_go 78), (42, mm_ldI 43 1), (43, mm_k 45 (.int 6)), (45, mm_ge2 58 48), (48, mm_ldI 49 3), (49, mm_clS 52 1 f_X5_meaning), (52, mm_eq1 76 55), (55, mm_go 70), (58, mm_ldI 59 1), (59, mm_k 61 (.int 6)), (61, mm_ne2 76 64), (64, mm_ldI 65 3), (65, mm_k 67 (.int 33)), (67, mm_ne2 76 70), (70, mm_inc 73 1 1), (73, mm_go 78), (76, mm_ldI 77 2), (77, mm_rtI), (78, mm_inc 81 2 1), (81, mm_go 4), (84, mm_ldI 85 1), (85, mm_k 87 (.int 6)), (87, mm_lt2 94 90), (90, mm_k 91 (.int (-1))), (91, mm_go 98), (94, mm_ldR 95 0), (95, mm_gfI 98 5 6), (98, mm_rtI)]
noncomputable def f_X5_firstFault : mm_F := mm_do (mm_pr tb_X5_firstFault) 4
theorem mn_X5_firstFault : mm_alln tb_X5_firstFault := ⟨mm_n_k _ _, mm_n_stI _ _, mm_n_k _ _, mm_n_stI _ _, mm_n_ldI _ _, mm_n_ldR _ _, mm_n_gfI _ _ _, mm_n_ge2 _ _, mm_n_ldI _ _, mm_n_k _ _, mm_n_ge2 _ _, mm_n_ldR _ _, mm_n_gfR _ _ _, mm_n_ldI _ _, mm_n_ald _ _, mm_n_stI _ _, mm_n_ldI _ _, mm_n_k _ _, mm_n_lt2 _ _, mm_n_ldI _ _, mm_n_k _ _, mm_n_ne2 _ _, mm_n_k _ _, mm_n_stI _ _, mm_n_go _, mm_n_ldI _ _, mm_n_k _ _, mm_n_ge2 _ _, mm_n_ldI _ _, mm_n_clS _ _ (mo_X5_meaning), mm_n_eq1 _ _, mm_n_go _, mm_n_ldI _ _, mm_n_k _ _, mm_n_ne2 _ _, mm_n_ldI _ _, mm_n_k _ _, mm_n_ne2 _ _, mm_n_inc _ _ _, mm_n_go _, mm_n_ldI _ _, mm_n_rtI, mm_n_inc _ _ _, mm_n_go _, mm_n_ldI _ _, mm_n_k _ _, mm_n_lt2 _ _, mm_n_k _ _, mm_n_go _, mm_n_ldR _ _, mm_n_gfI _ _ _, mm_n_rtI, trivial⟩
theorem mo_X5_firstFault : mm_Mo f_X5_firstFault := mm_do_mo (mm_alln_mem mn_X5_firstFault)
set_option maxRecDepth 10000 in
theorem ok_X5_firstFault {l : Launch} (hl : l.stackTraces = false) : mm_Ok l yX5_firstFault cX5_firstFault 4 (some .int) 2 40 tb_X5_firstFault := by
  refine ⟨mm_alln_mem mn_X5_firstFault, fun p e cells slots s m args below meth c D tc A S ad Tg X hret hname htab hth => mm_allr_mem ?_⟩
  exact ⟨mm_r_iconst X (show decode cX5_firstFault 0 = .ok (.iconst 0, 1) by decide +kernel) rfl,
    mm_r_istore_n X (show decode cX5_firstFault 1 = .ok (.istore_n 1, 1) by decide +kernel) rfl (Nat.le_of_ble_eq_true rfl),
    mm_r_iconst X (show decode cX5_firstFault 2 = .ok (.iconst 0, 1) by decide +kernel) rfl,
    mm_r_istore_n X (show decode cX5_firstFault 3 = .ok (.istore_n 2, 1) by decide +kernel) rfl (Nat.le_of_ble_eq_true rfl),
    mm_r_iload_n X (show decode cX5_firstFault 4 = .ok (.iload_n 2, 1) by decide +kernel) rfl,
    mm_r_aload_n X (show decode cX5_firstFault 5 = .ok (.aload_n 0, 1) by decide +kernel) rfl,
    mm_r_gfI X (ci := 5) (p := 6) (show mm_kd 5 6 = 0 by decide +kernel) rfl (Nat.le_of_ble_eq_true rfl) (show decode cX5_firstFault 6 = .ok (.getfield 40, 3) by decide +kernel) mw_356 rfl,
    mm_r_ge2 X (show decode cX5_firstFault 9 = .ok (.if_icmp .ge 75, 3) by decide +kernel) (by decide),
    mm_r_iload_n X (show decode cX5_firstFault 12 = .ok (.iload_n 2, 1) by decide +kernel) rfl,
    mm_r_bipush X (show decode cX5_firstFault 13 = .ok (.bipush 30, 2) by decide +kernel) rfl,
    mm_r_ge2 X (show decode cX5_firstFault 15 = .ok (.if_icmp .ge 69, 3) by decide +kernel) (by decide),
    mm_r_aload_n X (show decode cX5_firstFault 18 = .ok (.aload_n 0, 1) by decide +kernel) rfl,
    mm_r_gfR X (ci := 5) (p := 1) (show mm_kd 5 1 = 2 by decide +kernel) rfl (Nat.le_of_ble_eq_true rfl) (show decode cX5_firstFault 19 = .ok (.getfield 11, 3) by decide +kernel) mw_351 rfl,
    mm_r_iload_n X (show decode cX5_firstFault 22 = .ok (.iload_n 2, 1) by decide +kernel) rfl,
    mm_r_cald X (show decode cX5_firstFault 23 = .ok (.caload, 1) by decide +kernel),
    mm_r_istore_n X (show decode cX5_firstFault 24 = .ok (.istore_n 3, 1) by decide +kernel) rfl (Nat.le_of_ble_eq_true rfl),
    mm_r_iload_n X (show decode cX5_firstFault 25 = .ok (.iload_n 1, 1) by decide +kernel) rfl,
    mm_r_bipush X (show decode cX5_firstFault 26 = .ok (.bipush 6, 2) by decide +kernel) rfl,
    mm_r_lt2 X (show decode cX5_firstFault 28 = .ok (.if_icmp .lt 14, 3) by decide +kernel) (by decide),
    mm_r_iload_n X (show decode cX5_firstFault 31 = .ok (.iload_n 3, 1) by decide +kernel) rfl,
    mm_r_bipush X (show decode cX5_firstFault 32 = .ok (.bipush 124, 2) by decide +kernel) rfl,
    mm_r_ne2 X (show decode cX5_firstFault 34 = .ok (.if_icmp .ne 8, 3) by decide +kernel) (by decide),
    mm_r_iconst X (show decode cX5_firstFault 37 = .ok (.iconst 0, 1) by decide +kernel) rfl,
    mm_r_istore_n X (show decode cX5_firstFault 38 = .ok (.istore_n 1, 1) by decide +kernel) rfl (Nat.le_of_ble_eq_true rfl),
    mm_r_goto X (show decode cX5_firstFault 39 = .ok (.goto 39, 3) by decide +kernel) (by decide),
    mm_r_iload_n X (show decode cX5_firstFault 42 = .ok (.iload_n 1, 1) by decide +kernel) rfl,
    mm_r_bipush X (show decode cX5_firstFault 43 = .ok (.bipush 6, 2) by decide +kernel) rfl,
    mm_r_ge2 X (show decode cX5_firstFault 45 = .ok (.if_icmp .ge 13, 3) by decide +kernel) (by decide),
    mm_r_iload_n X (show decode cX5_firstFault 48 = .ok (.iload_n 3, 1) by decide +kernel) rfl,
    mm_r_clS X hth (na := 1) (sn_X5_meaning hl) (show decode cX5_firstFault 49 = .ok (.invokestatic 36, 3) by decide +kernel) mw_684 mw_682 mw_683 mw_53 hd_X5_meaning.2 ⟨(Nat.le_of_ble_eq_true rfl), (Nat.le_of_ble_eq_true rfl)⟩,
    mm_r_eq1 X (show decode cX5_firstFault 52 = .ok (.ifCond .eq 24, 3) by decide +kernel) (by decide),
    mm_r_goto X (show decode cX5_firstFault 55 = .ok (.goto 15, 3) by decide +kernel) (by decide),
    mm_r_iload_n X (show decode cX5_firstFault 58 = .ok (.iload_n 1, 1) by decide +kernel) rfl,
    mm_r_bipush X (show decode cX5_firstFault 59 = .ok (.bipush 6, 2) by decide +kernel) rfl,
    mm_r_ne2 X (show decode cX5_firstFault 61 = .ok (.if_icmp .ne 15, 3) by decide +kernel) (by decide),
    mm_r_iload_n X (show decode cX5_firstFault 64 = .ok (.iload_n 3, 1) by decide +kernel) rfl,
    mm_r_bipush X (show decode cX5_firstFault 65 = .ok (.bipush 33, 2) by decide +kernel) rfl,
    mm_r_ne2 X (show decode cX5_firstFault 67 = .ok (.if_icmp .ne 9, 3) by decide +kernel) (by decide),
    mm_r_iinc X (show decode cX5_firstFault 70 = .ok (.iinc 1 1, 3) by decide +kernel) rfl (Nat.le_of_ble_eq_true rfl),
    mm_r_goto X (show decode cX5_firstFault 73 = .ok (.goto 5, 3) by decide +kernel) (by decide),
    mm_r_iload_n X (show decode cX5_firstFault 76 = .ok (.iload_n 2, 1) by decide +kernel) rfl,
    mm_r_iret X hret (show decode cX5_firstFault 77 = .ok (.ireturn, 1) by decide +kernel),
    mm_r_iinc X (show decode cX5_firstFault 78 = .ok (.iinc 2 1, 3) by decide +kernel) rfl (Nat.le_of_ble_eq_true rfl),
    mm_r_goto X (show decode cX5_firstFault 81 = .ok (.goto (-77), 3) by decide +kernel) (by decide),
    mm_r_iload_n X (show decode cX5_firstFault 84 = .ok (.iload_n 1, 1) by decide +kernel) rfl,
    mm_r_bipush X (show decode cX5_firstFault 85 = .ok (.bipush 6, 2) by decide +kernel) rfl,
    mm_r_lt2 X (show decode cX5_firstFault 87 = .ok (.if_icmp .lt 7, 3) by decide +kernel) (by decide),
    mm_r_iconst X (show decode cX5_firstFault 90 = .ok (.iconst (-1), 1) by decide +kernel) rfl,
    mm_r_goto X (show decode cX5_firstFault 91 = .ok (.goto 7, 3) by decide +kernel) (by decide),
    mm_r_aload_n X (show decode cX5_firstFault 94 = .ok (.aload_n 0, 1) by decide +kernel) rfl,
    mm_r_gfI X (ci := 5) (p := 6) (show mm_kd 5 6 = 0 by decide +kernel) rfl (Nat.le_of_ble_eq_true rfl) (show decode cX5_firstFault 95 = .ok (.getfield 40, 3) by decide +kernel) mw_356 rfl,
    mm_r_iret X hret (show decode cX5_firstFault 98 = .ok (.ireturn, 1) by decide +kernel), trivial⟩
theorem sn_X5_firstFault {l : Launch} (hl : l.stackTraces = false) : mm_Snd l yX5_firstFault (.code yX5_firstFault cX5_firstFault 4 (some .int)) 2 40 f_X5_firstFault := mm_met hl (plainFor_of_name (by decide +kernel)) (ok_X5_firstFault hl)
/-! Linkcourt.fault()I -/
noncomputable def tb_X10_fault : List (Nat × mm_I) := [(0, mm_ldR 1 0), (1, mm_gfR 4 10 6), (4, mm_clV 7 5 0 f_X5_firstFault), (7, mm_rtI)]
noncomputable def f_X10_fault : mm_F := mm_do (mm_pr tb_X10_fault) 1
theorem mn_X10_fault : mm_alln tb_X10_fault := ⟨mm_n_ldR _ _, mm_n_gfR _ _ _, mm_n_clV _ _ _ (mo_X5_firstFault), mm_n_rtI, trivial⟩
theorem mo_X10_fault : mm_Mo f_X10_fault := mm_do_mo (mm_alln_mem mn_X10_fault)
set_option maxRecDepth 10000 in
theorem ok_X10_fault {l : Launch} (hl : l.stackTraces = false) : mm_Ok l yX10_fault cX10_fault 1 (some .int) 3 63 tb_X10_fault := by
  refine ⟨mm_alln_mem mn_X10_fault, fun p e cells slots s m args below meth c D tc A S ad Tg X hret hname htab hth => mm_allr_mem ?_⟩
  exact ⟨mm_r_aload_n X (show decode cX10_fault 0 = .ok (.aload_n 0, 1) by decide +kernel) rfl,
    mm_r_gfR X (ci := 10) (p := 6) (show mm_kd 10 6 = 2 by decide +kernel) rfl (Nat.le_of_ble_eq_true rfl) (show decode cX10_fault 1 = .ok (.getfield 63, 3) by decide +kernel) mw_434 rfl,
    mm_r_clV X hth (ci := 5) (na := 0) (sn_X5_firstFault hl) rfl (show decode cX10_fault 4 = .ok (.invokevirtual 299, 3) by decide +kernel) mw_681 mw_678 mw_679 mw_680 mw_53 hd_X5_firstFault ⟨(Nat.le_of_ble_eq_true rfl), (Nat.le_of_ble_eq_true rfl)⟩,
    mm_r_iret X hret (show decode cX10_fault 7 = .ok (.ireturn, 1) by decide +kernel), trivial⟩
theorem sn_X10_fault {l : Launch} (hl : l.stackTraces = false) : mm_Snd l yX10_fault (.code yX10_fault cX10_fault 1 (some .int)) 3 63 f_X10_fault := mm_met hl (plainFor_of_name (by decide +kernel)) (ok_X10_fault hl)
/-! Linkcourt$Patterns.hasPattern(I)Z -/
noncomputable def tb_X5_hasPattern : List (Nat × mm_I) := [(0, mm_ldI 1 1), (1, mm_lt1 22 4), (4, mm_ldI 5 1), (5, mm_ldR 6 0), (6, mm_gfI 9 5 7), (9, mm_ge2 22 12), (12, mm_ldI 13 1), (13, mm_k 15 (.int 6)), (15, mm_ge2 22 18), (18, mm_k 19 (.int 1)), (19, mm_go 23), (22, mm_k 23 (.int 0)), (23, mm_rtZ)]
noncomputable def f_X5_hasPattern : mm_F := mm_do (mm_pr tb_X5_hasPattern) 2
theorem mn_X5_hasPattern : mm_alln tb_X5_hasPattern := ⟨mm_n_ldI _ _, mm_n_lt1 _ _, mm_n_ldI _ _, mm_n_ldR _ _, mm_n_gfI _ _ _, mm_n_ge2 _ _, mm_n_ldI _ _, mm_n_k _ _, mm_n_ge2 _ _, mm_n_k _ _, mm_n_go _, mm_n_k _ _, mm_n_rtZ, trivial⟩
theorem mo_X5_hasPattern : mm_Mo f_X5_hasPattern := mm_do_mo (mm_alln_mem mn_X5_hasPattern)
set_option maxRecDepth 10000 in
theorem ok_X5_hasPattern {l : Launch} (hl : l.stackTraces = false) : mm_Ok l yX5_hasPattern cX5_hasPattern 2 (some .boolean) 1 20 tb_X5_hasPattern := by
  refine ⟨mm_alln_mem mn_X5_hasPattern, fun p e cells slots s m args below meth c D tc A S ad Tg X hret hname htab hth => mm_allr_mem ?_⟩
  exact ⟨mm_r_iload_n X (show decode cX5_hasPattern 0 = .ok (.iload_n 1, 1) by decide +kernel) rfl,
    mm_r_lt1 X (show decode cX5_hasPattern 1 = .ok (.ifCond .lt 21, 3) by decide +kernel) (by decide),
    mm_r_iload_n X (show decode cX5_hasPattern 4 = .ok (.iload_n 1, 1) by decide +kernel) rfl,
    mm_r_aload_n X (show decode cX5_hasPattern 5 = .ok (.aload_n 0, 1) by decide +kernel) rfl,
    mm_r_gfI X (ci := 5) (p := 7) (show mm_kd 5 7 = 0 by decide +kernel) rfl (Nat.le_of_ble_eq_true rfl) (show decode cX5_hasPattern 6 = .ok (.getfield 46, 3) by decide +kernel) mw_358 rfl,
    mm_r_ge2 X (show decode cX5_hasPattern 9 = .ok (.if_icmp .ge 13, 3) by decide +kernel) (by decide),
    mm_r_iload_n X (show decode cX5_hasPattern 12 = .ok (.iload_n 1, 1) by decide +kernel) rfl,
    mm_r_bipush X (show decode cX5_hasPattern 13 = .ok (.bipush 6, 2) by decide +kernel) rfl,
    mm_r_ge2 X (show decode cX5_hasPattern 15 = .ok (.if_icmp .ge 7, 3) by decide +kernel) (by decide),
    mm_r_iconst X (show decode cX5_hasPattern 18 = .ok (.iconst 1, 1) by decide +kernel) rfl,
    mm_r_goto X (show decode cX5_hasPattern 19 = .ok (.goto 4, 3) by decide +kernel) (by decide),
    mm_r_iconst X (show decode cX5_hasPattern 22 = .ok (.iconst 0, 1) by decide +kernel) rfl,
    mm_r_zret X hret (show decode cX5_hasPattern 23 = .ok (.ireturn, 1) by decide +kernel), trivial⟩
theorem sn_X5_hasPattern {l : Launch} (hl : l.stackTraces = false) : mm_Snd l yX5_hasPattern (.code yX5_hasPattern cX5_hasPattern 2 (some .boolean)) 1 20 f_X5_hasPattern := mm_met hl (plainFor_of_name (by decide +kernel)) (ok_X5_hasPattern hl)
/-! Linkcourt$Patterns.character(II)C -/
noncomputable def tb_X5_character : List (Nat × mm_I) := [(0, mm_ldR 1 0), (1, mm_ldI 2 1), (2, mm_clV 5 5 1 f_X5_hasPattern), (5, mm_eq1 32 8), (8, mm_ldI 9 2), (9, mm_lt1 32 12), (12, mm_ldI 13 2), (13, mm_k 15 (.int 30)), (15, mm_ge2 32 18), (18, mm_ldR 19 0), (19, mm_gfR 22 5 2), (22, mm_ldI 23 1), (23, mm_k 25 (.int 30)), (25, mm_i2 26 (fun a b => a * b)), (26, mm_ldI 27 2), (27, mm_i2 28 (fun a b => a + b)), (28, mm_ald 29 3), (29, mm_go 34), (32, mm_k 34 (.int 32)), (34, mm_rtC)]
noncomputable def f_X5_character : mm_F := mm_do (mm_pr tb_X5_character) 3
theorem mn_X5_character : mm_alln tb_X5_character := ⟨mm_n_ldR _ _, mm_n_ldI _ _, mm_n_clV _ _ _ (mo_X5_hasPattern), mm_n_eq1 _ _, mm_n_ldI _ _, mm_n_lt1 _ _, mm_n_ldI _ _, mm_n_k _ _, mm_n_ge2 _ _, mm_n_ldR _ _, mm_n_gfR _ _ _, mm_n_ldI _ _, mm_n_k _ _, mm_n_i2 _ _, mm_n_ldI _ _, mm_n_i2 _ _, mm_n_ald _ _, mm_n_go _, mm_n_k _ _, mm_n_rtC, trivial⟩
theorem mo_X5_character : mm_Mo f_X5_character := mm_do_mo (mm_alln_mem mn_X5_character)
set_option maxRecDepth 10000 in
theorem ok_X5_character {l : Launch} (hl : l.stackTraces = false) : mm_Ok l yX5_character cX5_character 3 (some .char) 2 41 tb_X5_character := by
  refine ⟨mm_alln_mem mn_X5_character, fun p e cells slots s m args below meth c D tc A S ad Tg X hret hname htab hth => mm_allr_mem ?_⟩
  exact ⟨mm_r_aload_n X (show decode cX5_character 0 = .ok (.aload_n 0, 1) by decide +kernel) rfl,
    mm_r_iload_n X (show decode cX5_character 1 = .ok (.iload_n 1, 1) by decide +kernel) rfl,
    mm_r_clV X hth (ci := 5) (na := 1) (sn_X5_hasPattern hl) rfl (show decode cX5_character 2 = .ok (.invokevirtual 53, 3) by decide +kernel) mw_618 mw_644 mw_616 mw_617 mw_53 hd_X5_hasPattern ⟨(Nat.le_of_ble_eq_true rfl), (Nat.le_of_ble_eq_true rfl)⟩,
    mm_r_eq1 X (show decode cX5_character 5 = .ok (.ifCond .eq 27, 3) by decide +kernel) (by decide),
    mm_r_iload_n X (show decode cX5_character 8 = .ok (.iload_n 2, 1) by decide +kernel) rfl,
    mm_r_lt1 X (show decode cX5_character 9 = .ok (.ifCond .lt 23, 3) by decide +kernel) (by decide),
    mm_r_iload_n X (show decode cX5_character 12 = .ok (.iload_n 2, 1) by decide +kernel) rfl,
    mm_r_bipush X (show decode cX5_character 13 = .ok (.bipush 30, 2) by decide +kernel) rfl,
    mm_r_ge2 X (show decode cX5_character 15 = .ok (.if_icmp .ge 17, 3) by decide +kernel) (by decide),
    mm_r_aload_n X (show decode cX5_character 18 = .ok (.aload_n 0, 1) by decide +kernel) rfl,
    mm_r_gfR X (ci := 5) (p := 2) (show mm_kd 5 2 = 2 by decide +kernel) rfl (Nat.le_of_ble_eq_true rfl) (show decode cX5_character 19 = .ok (.getfield 15, 3) by decide +kernel) mw_352 rfl,
    mm_r_iload_n X (show decode cX5_character 22 = .ok (.iload_n 1, 1) by decide +kernel) rfl,
    mm_r_bipush X (show decode cX5_character 23 = .ok (.bipush 30, 2) by decide +kernel) rfl,
    mm_r_imul X (show decode cX5_character 25 = .ok (.imul, 1) by decide +kernel),
    mm_r_iload_n X (show decode cX5_character 26 = .ok (.iload_n 2, 1) by decide +kernel) rfl,
    mm_r_iadd X (show decode cX5_character 27 = .ok (.iadd, 1) by decide +kernel),
    mm_r_cald X (show decode cX5_character 28 = .ok (.caload, 1) by decide +kernel),
    mm_r_goto X (show decode cX5_character 29 = .ok (.goto 5, 3) by decide +kernel) (by decide),
    mm_r_bipush X (show decode cX5_character 32 = .ok (.bipush 32, 2) by decide +kernel) rfl,
    mm_r_cret X hret (show decode cX5_character 34 = .ok (.ireturn, 1) by decide +kernel), trivial⟩
theorem sn_X5_character {l : Launch} (hl : l.stackTraces = false) : mm_Snd l yX5_character (.code yX5_character cX5_character 3 (some .char)) 2 41 f_X5_character := mm_met hl (plainFor_of_name (by decide +kernel)) (ok_X5_character hl)
/-! Linkcourt$Patterns.translate(I)V -/
noncomputable def tb_X5_translate : List (Nat × mm_I) := [(0, mm_ldR 1 0), (1, mm_ldI 2 1), (2, mm_clV 5 5 1 f_X5_hasPattern), (5, mm_ne1 9 8), (8, mm_rtV), (9, mm_k 10 (.int 0)), (10, mm_stI 11 2), (11, mm_k 12 (.int 0)), (12, mm_stI 13 3), (13, mm_k 14 (.int 0)), (14, mm_stI 16 4), (16, mm_ldI 18 4), (18, mm_ldR 19 0), (19, mm_gfR 22 5 3), (22, mm_ldI 23 1), (23, mm_ald 24 0), (24, mm_ge2 135 27), (27, mm_ldI 29 4), (29, mm_k 31 (.int 30)), (31, mm_ge2 135 34), (34, mm_ldR 35 0), (35, mm_ldI 36 1), (36, mm_ldI 38 4), (38, mm_clV 41 5 2 f_X5_character), (41, mm_stI 43 5), (43, mm_ldI 45 5), (45, mm_k 47 (.int 124)), (47, mm_ne2 70 50), (50, mm_ldI 51 2), (51, mm_ldI 52 2), (52, mm_k 53 (.int 1)), (53, mm_i2 54 (fun a b => a + b)), (54, mm_k 55 (.int 4)), (55, mm_ge2 62 58), (58, mm_k 59 (.int 1)), (59, mm_go 63), (62, mm_k 63 (.int 0)), (63, mm_i2 64 (fun a b => a + b)), (64, mm_stI 65 2), (65, mm_k 66 (.int 0)), (66, mm_stI 67 3), (67, mm_go 129), (70, mm_ldI 71 1), (71, mm_k 72 (.int 4)), (72, mm_i2 73 (fun a b => a * b)), (73, mm_ldI 74 2), (74, mm_i2 75 (fun a b => a + b)), (75, mm_stI 77 6), (77, mm_ldI 79 5), (79, mm_k 81 (.int 33)), (81, mm_ne2 89 84), (84, mm_k 86 (.int 16777216)), (86, mm_go 98), (89, mm_ldI 91 5), (91, mm_clS 94 1 f_X5_meaning), (94, mm_k 95 (.int 4)), (95, mm_ldI 96 3), (96, mm_i2 97 (fun a b => a * b)), (97, mm_i2 98 (fun a b => a <<< (b &&& 31))), (98, mm_stI 100 7), (100, mm_ldR 101 0), (101, mm_gfR 104 5 4), (104, mm_ldI 106 6), (106, mm_ldI 107 3), (107, mm_ne1 115 110), (110, mm_ldI 112 7), (112, mm_go 125), (115, mm_ldR 116 0), (116, mm_gfR 119 5 4), (119, mm_ldI 121 6), (121, mm_ald 122 0), (122, mm_ldI 124 7), (124, mm_i2 125 (fun a b => a ||| b)), (125, mm_ast 126 0 (fun v => v)), (126, mm_inc 129 3 1), (129, mm_inc 132 4 1), (132, mm_go 16), (135, mm_ldR 136 0), (136, mm_gfR 139 5 5), (139, mm_ldI 140 1), (140, mm_ldI 141 2), (141, mm_k 142 (.int 1)), (142, mm_i2 143 (fun a b => a + b)), (143, mm_ast 144 0 (fun v => v)), (144, mm_rtV)]
noncomputable def f_X5_translate : mm_F := mm_do (mm_pr tb_X5_translate) 8
theorem mn_X5_translate : mm_alln tb_X5_translate := ⟨mm_n_ldR _ _, mm_n_ldI _ _, mm_n_clV _ _ _ (mo_X5_hasPattern), mm_n_ne1 _ _, mm_n_rtV, mm_n_k _ _, mm_n_stI _ _, mm_n_k _ _, mm_n_stI _ _, mm_n_k _ _, mm_n_stI _ _, mm_n_ldI _ _, mm_n_ldR _ _, mm_n_gfR _ _ _, mm_n_ldI _ _, mm_n_ald _ _, mm_n_ge2 _ _, mm_n_ldI _ _, mm_n_k _ _, mm_n_ge2 _ _, mm_n_ldR _ _, mm_n_ldI _ _, mm_n_ldI _ _, mm_n_clV _ _ _ (mo_X5_character), mm_n_stI _ _, mm_n_ldI _ _, mm_n_k _ _, mm_n_ne2 _ _, mm_n_ldI _ _, mm_n_ldI _ _, mm_n_k _ _, mm_n_i2 _ _, mm_n_k _ _, mm_n_ge2 _ _, mm_n_k _ _, mm_n_go _, mm_n_k _ _, mm_n_i2 _ _, mm_n_stI _ _, mm_n_k _ _, mm_n_stI _ _, mm_n_go _, mm_n_ldI _ _, mm_n_k _ _, mm_n_i2 _ _, mm_n_ldI _ _, mm_n_i2 _ _, mm_n_stI _ _, mm_n_ldI _ _, mm_n_k _ _, mm_n_ne2 _ _, mm_n_k _ _, mm_n_go _, mm_n_ldI _ _, mm_n_clS _ _ (mo_X5_meaning), mm_n_k _ _, mm_n_ldI _ _, mm_n_i2 _ _, mm_n_i2 _ _, mm_n_stI _ _, mm_n_ldR _ _, mm_n_gfR _ _ _, mm_n_ldI _ _, mm_n_ldI _ _, mm_n_ne1 _ _, mm_n_ldI _ _, mm_n_go _, mm_n_ldR _ _, mm_n_gfR _ _ _, mm_n_ldI _ _, mm_n_ald _ _, mm_n_ldI _ _, mm_n_i2 _ _, mm_n_ast _ _ _, mm_n_inc _ _ _, mm_n_inc _ _ _, mm_n_go _, mm_n_ldR _ _, mm_n_gfR _ _ _, mm_n_ldI _ _, mm_n_ldI _ _, mm_n_k _ _, mm_n_i2 _ _, mm_n_ast _ _ _, mm_n_rtV, trivial⟩
theorem mo_X5_translate : mm_Mo f_X5_translate := mm_do_mo (mm_alln_mem mn_X5_translate)
set_option maxRecDepth 10000 in
theorem ok_X5_translate {l : Launch} (hl : l.stackTraces = false) : mm_Ok l yX5_translate cX5_translate 8 none 3 63 tb_X5_translate := by
  refine ⟨mm_alln_mem mn_X5_translate, fun p e cells slots s m args below meth c D tc A S ad Tg X hret hname htab hth => mm_allr_mem ?_⟩
  exact ⟨mm_r_aload_n X (show decode cX5_translate 0 = .ok (.aload_n 0, 1) by decide +kernel) rfl,
    mm_r_iload_n X (show decode cX5_translate 1 = .ok (.iload_n 1, 1) by decide +kernel) rfl,
    mm_r_clV X hth (ci := 5) (na := 1) (sn_X5_hasPattern hl) rfl (show decode cX5_translate 2 = .ok (.invokevirtual 53, 3) by decide +kernel) mw_618 mw_644 mw_616 mw_617 mw_53 hd_X5_hasPattern ⟨(Nat.le_of_ble_eq_true rfl), (Nat.le_of_ble_eq_true rfl)⟩,
    mm_r_ne1 X (show decode cX5_translate 5 = .ok (.ifCond .ne 4, 3) by decide +kernel) (by decide),
    mm_r_vret X hret (show decode cX5_translate 8 = .ok (.return_, 1) by decide +kernel),
    mm_r_iconst X (show decode cX5_translate 9 = .ok (.iconst 0, 1) by decide +kernel) rfl,
    mm_r_istore_n X (show decode cX5_translate 10 = .ok (.istore_n 2, 1) by decide +kernel) rfl (Nat.le_of_ble_eq_true rfl),
    mm_r_iconst X (show decode cX5_translate 11 = .ok (.iconst 0, 1) by decide +kernel) rfl,
    mm_r_istore_n X (show decode cX5_translate 12 = .ok (.istore_n 3, 1) by decide +kernel) rfl (Nat.le_of_ble_eq_true rfl),
    mm_r_iconst X (show decode cX5_translate 13 = .ok (.iconst 0, 1) by decide +kernel) rfl,
    mm_r_istore X (show decode cX5_translate 14 = .ok (.istore 4, 2) by decide +kernel) (Nat.le_of_ble_eq_true rfl),
    mm_r_iload X (show decode cX5_translate 16 = .ok (.iload 4, 2) by decide +kernel),
    mm_r_aload_n X (show decode cX5_translate 18 = .ok (.aload_n 0, 1) by decide +kernel) rfl,
    mm_r_gfR X (ci := 5) (p := 3) (show mm_kd 5 3 = 2 by decide +kernel) rfl (Nat.le_of_ble_eq_true rfl) (show decode cX5_translate 19 = .ok (.getfield 18, 3) by decide +kernel) mw_353 rfl,
    mm_r_iload_n X (show decode cX5_translate 22 = .ok (.iload_n 1, 1) by decide +kernel) rfl,
    mm_r_iald X (show decode cX5_translate 23 = .ok (.iaload, 1) by decide +kernel),
    mm_r_ge2 X (show decode cX5_translate 24 = .ok (.if_icmp .ge 111, 3) by decide +kernel) (by decide),
    mm_r_iload X (show decode cX5_translate 27 = .ok (.iload 4, 2) by decide +kernel),
    mm_r_bipush X (show decode cX5_translate 29 = .ok (.bipush 30, 2) by decide +kernel) rfl,
    mm_r_ge2 X (show decode cX5_translate 31 = .ok (.if_icmp .ge 104, 3) by decide +kernel) (by decide),
    mm_r_aload_n X (show decode cX5_translate 34 = .ok (.aload_n 0, 1) by decide +kernel) rfl,
    mm_r_iload_n X (show decode cX5_translate 35 = .ok (.iload_n 1, 1) by decide +kernel) rfl,
    mm_r_iload X (show decode cX5_translate 36 = .ok (.iload 4, 2) by decide +kernel),
    mm_r_clV X hth (ci := 5) (na := 2) (sn_X5_character hl) rfl (show decode cX5_translate 38 = .ok (.invokevirtual 57, 3) by decide +kernel) mw_1037 mw_1034 mw_1036 mw_38 mw_53 hd_X5_character ⟨(Nat.le_of_ble_eq_true rfl), (Nat.le_of_ble_eq_true rfl)⟩,
    mm_r_istore X (show decode cX5_translate 41 = .ok (.istore 5, 2) by decide +kernel) (Nat.le_of_ble_eq_true rfl),
    mm_r_iload X (show decode cX5_translate 43 = .ok (.iload 5, 2) by decide +kernel),
    mm_r_bipush X (show decode cX5_translate 45 = .ok (.bipush 124, 2) by decide +kernel) rfl,
    mm_r_ne2 X (show decode cX5_translate 47 = .ok (.if_icmp .ne 23, 3) by decide +kernel) (by decide),
    mm_r_iload_n X (show decode cX5_translate 50 = .ok (.iload_n 2, 1) by decide +kernel) rfl,
    mm_r_iload_n X (show decode cX5_translate 51 = .ok (.iload_n 2, 1) by decide +kernel) rfl,
    mm_r_iconst X (show decode cX5_translate 52 = .ok (.iconst 1, 1) by decide +kernel) rfl,
    mm_r_iadd X (show decode cX5_translate 53 = .ok (.iadd, 1) by decide +kernel),
    mm_r_iconst X (show decode cX5_translate 54 = .ok (.iconst 4, 1) by decide +kernel) rfl,
    mm_r_ge2 X (show decode cX5_translate 55 = .ok (.if_icmp .ge 7, 3) by decide +kernel) (by decide),
    mm_r_iconst X (show decode cX5_translate 58 = .ok (.iconst 1, 1) by decide +kernel) rfl,
    mm_r_goto X (show decode cX5_translate 59 = .ok (.goto 4, 3) by decide +kernel) (by decide),
    mm_r_iconst X (show decode cX5_translate 62 = .ok (.iconst 0, 1) by decide +kernel) rfl,
    mm_r_iadd X (show decode cX5_translate 63 = .ok (.iadd, 1) by decide +kernel),
    mm_r_istore_n X (show decode cX5_translate 64 = .ok (.istore_n 2, 1) by decide +kernel) rfl (Nat.le_of_ble_eq_true rfl),
    mm_r_iconst X (show decode cX5_translate 65 = .ok (.iconst 0, 1) by decide +kernel) rfl,
    mm_r_istore_n X (show decode cX5_translate 66 = .ok (.istore_n 3, 1) by decide +kernel) rfl (Nat.le_of_ble_eq_true rfl),
    mm_r_goto X (show decode cX5_translate 67 = .ok (.goto 62, 3) by decide +kernel) (by decide),
    mm_r_iload_n X (show decode cX5_translate 70 = .ok (.iload_n 1, 1) by decide +kernel) rfl,
    mm_r_iconst X (show decode cX5_translate 71 = .ok (.iconst 4, 1) by decide +kernel) rfl,
    mm_r_imul X (show decode cX5_translate 72 = .ok (.imul, 1) by decide +kernel),
    mm_r_iload_n X (show decode cX5_translate 73 = .ok (.iload_n 2, 1) by decide +kernel) rfl,
    mm_r_iadd X (show decode cX5_translate 74 = .ok (.iadd, 1) by decide +kernel),
    mm_r_istore X (show decode cX5_translate 75 = .ok (.istore 6, 2) by decide +kernel) (Nat.le_of_ble_eq_true rfl),
    mm_r_iload X (show decode cX5_translate 77 = .ok (.iload 5, 2) by decide +kernel),
    mm_r_bipush X (show decode cX5_translate 79 = .ok (.bipush 33, 2) by decide +kernel) rfl,
    mm_r_ne2 X (show decode cX5_translate 81 = .ok (.if_icmp .ne 8, 3) by decide +kernel) (by decide),
    mm_r_ldc X (show decode cX5_translate 84 = .ok (.ldc 61, 2) by decide +kernel) mw_649,
    mm_r_goto X (show decode cX5_translate 86 = .ok (.goto 12, 3) by decide +kernel) (by decide),
    mm_r_iload X (show decode cX5_translate 89 = .ok (.iload 5, 2) by decide +kernel),
    mm_r_clS X hth (na := 1) (sn_X5_meaning hl) (show decode cX5_translate 91 = .ok (.invokestatic 36, 3) by decide +kernel) mw_684 mw_682 mw_683 mw_53 hd_X5_meaning.2 ⟨(Nat.le_of_ble_eq_true rfl), (Nat.le_of_ble_eq_true rfl)⟩,
    mm_r_iconst X (show decode cX5_translate 94 = .ok (.iconst 4, 1) by decide +kernel) rfl,
    mm_r_iload_n X (show decode cX5_translate 95 = .ok (.iload_n 3, 1) by decide +kernel) rfl,
    mm_r_imul X (show decode cX5_translate 96 = .ok (.imul, 1) by decide +kernel),
    mm_r_ishl X (show decode cX5_translate 97 = .ok (.ishl, 1) by decide +kernel),
    mm_r_istore X (show decode cX5_translate 98 = .ok (.istore 7, 2) by decide +kernel) (Nat.le_of_ble_eq_true rfl),
    mm_r_aload_n X (show decode cX5_translate 100 = .ok (.aload_n 0, 1) by decide +kernel) rfl,
    mm_r_gfR X (ci := 5) (p := 4) (show mm_kd 5 4 = 2 by decide +kernel) rfl (Nat.le_of_ble_eq_true rfl) (show decode cX5_translate 101 = .ok (.getfield 22, 3) by decide +kernel) mw_354 rfl,
    mm_r_iload X (show decode cX5_translate 104 = .ok (.iload 6, 2) by decide +kernel),
    mm_r_iload_n X (show decode cX5_translate 106 = .ok (.iload_n 3, 1) by decide +kernel) rfl,
    mm_r_ne1 X (show decode cX5_translate 107 = .ok (.ifCond .ne 8, 3) by decide +kernel) (by decide),
    mm_r_iload X (show decode cX5_translate 110 = .ok (.iload 7, 2) by decide +kernel),
    mm_r_goto X (show decode cX5_translate 112 = .ok (.goto 13, 3) by decide +kernel) (by decide),
    mm_r_aload_n X (show decode cX5_translate 115 = .ok (.aload_n 0, 1) by decide +kernel) rfl,
    mm_r_gfR X (ci := 5) (p := 4) (show mm_kd 5 4 = 2 by decide +kernel) rfl (Nat.le_of_ble_eq_true rfl) (show decode cX5_translate 116 = .ok (.getfield 22, 3) by decide +kernel) mw_354 rfl,
    mm_r_iload X (show decode cX5_translate 119 = .ok (.iload 6, 2) by decide +kernel),
    mm_r_iald X (show decode cX5_translate 121 = .ok (.iaload, 1) by decide +kernel),
    mm_r_iload X (show decode cX5_translate 122 = .ok (.iload 7, 2) by decide +kernel),
    mm_r_ior X (show decode cX5_translate 124 = .ok (.ior, 1) by decide +kernel),
    mm_r_iast X (show decode cX5_translate 125 = .ok (.iastore, 1) by decide +kernel),
    mm_r_iinc X (show decode cX5_translate 126 = .ok (.iinc 3 1, 3) by decide +kernel) rfl (Nat.le_of_ble_eq_true rfl),
    mm_r_iinc X (show decode cX5_translate 129 = .ok (.iinc 4 1, 3) by decide +kernel) rfl (Nat.le_of_ble_eq_true rfl),
    mm_r_goto X (show decode cX5_translate 132 = .ok (.goto (-116), 3) by decide +kernel) (by decide),
    mm_r_aload_n X (show decode cX5_translate 135 = .ok (.aload_n 0, 1) by decide +kernel) rfl,
    mm_r_gfR X (ci := 5) (p := 5) (show mm_kd 5 5 = 2 by decide +kernel) rfl (Nat.le_of_ble_eq_true rfl) (show decode cX5_translate 136 = .ok (.getfield 25, 3) by decide +kernel) mw_355 rfl,
    mm_r_iload_n X (show decode cX5_translate 139 = .ok (.iload_n 1, 1) by decide +kernel) rfl,
    mm_r_iload_n X (show decode cX5_translate 140 = .ok (.iload_n 2, 1) by decide +kernel) rfl,
    mm_r_iconst X (show decode cX5_translate 141 = .ok (.iconst 1, 1) by decide +kernel) rfl,
    mm_r_iadd X (show decode cX5_translate 142 = .ok (.iadd, 1) by decide +kernel),
    mm_r_iast X (show decode cX5_translate 143 = .ok (.iastore, 1) by decide +kernel),
    mm_r_vret X hret (show decode cX5_translate 144 = .ok (.return_, 1) by decide +kernel), trivial⟩
theorem sn_X5_translate {l : Launch} (hl : l.stackTraces = false) : mm_Snd l yX5_translate (.code yX5_translate cX5_translate 8 none) 3 63 f_X5_translate := mm_met hl (plainFor_of_name (by decide +kernel)) (ok_X5_translate hl)
/-! Linkcourt$Patterns.keep()I -/
noncomputable def tb_X5_keep : List (Nat × mm_I) := [(0, mm_ldR 1 0), (1, mm_gfI 4 5 7), (4, mm_lt1 16 7), (7, mm_ldR 8 0), (8, mm_gfI 11 5 7), (11, mm_k 13 (.int 6)), (13, mm_lt2 18 16), (16, mm_k 17 (.int (-1))), (17, mm_rtI), (18, mm_k 19 (.int 0)), (19, mm_stI 20 1), (20, mm_ldI 21 1), (21, mm_ldR 22 0), (22, mm_gfI 25 5 6), (25, mm_ge2 60 28), (28, mm_ldI 29 1), (29, mm_k 31 (.int 30)), (31, mm_ge2 60 34), (34, mm_ldR 35 0), (35, mm_gfR 38 5 2), (38, mm_ldR 39 0), (39, mm_gfI 42 5 7), (42, mm_k 44 (.int 30)), (44, mm_i2 45 (fun a b => a * b)), (45, mm_ldI 46 1), (46, mm_i2 47 (fun a b => a + b)), (47, mm_ldR 48 0), (48, mm_gfR 51 5 1), (51, mm_ldI 52 1), (52, mm_ald 53 3), (53, mm_ast 54 3 (fun v => v.toUInt32.toUInt16.toUInt32.toInt32)), (54, mm_inc 57 1 1), (57, mm_go 20), (60, mm_ldR 61 0), (61, mm_gfR 64 5 3), (64, mm_ldR 65 0), (65, mm_gfI 68 5 7), (68, mm_ldR 69 0), (69, mm_gfI 72 5 6), (72, mm_ast 73 0 (fun v => v)), (73, mm_ldR 74 0), (74, mm_gfR 77 5 5), (77, mm_ldR 78 0), (78, mm_gfI 81 5 7), (81, mm_k 82 (.int 0)), (82, mm_ast 83 0 (fun v => v)), (83, mm_ldR 84 0), (84, mm_dup 85), (85, mm_gfI 88 5 7), (88, mm_k 89 (.int 1)), (89, mm_i2 90 (fun a b => a + b)), (90, mm_pfI 93 5 7), (93, mm_ldR 94 0), (94, mm_k 95 (.int 0)), (95, mm_pfI 98 5 6), (98, mm_ldR 99 0), (99, mm_ldR 100 0), (100, mm_gfI 103 5 7), (103, mm_k 104 (.int 1)), (104, mm_i2 105 (fun a b => a - b)), (105, mm_clV 108 5 1 f_X5_translate), (108, mm_ldR 109 0), (109, mm_gfI 112 5 7), (112, mm_k 113 (.int 1)), (113, mm_i2 114 (fun a b => a - b)), (114, mm_rtI)]
noncomputable def f_X5_keep : mm_F := mm_do (mm_pr tb_X5_keep) 2
theorem mn_X5_keep : mm_alln tb_X5_keep := ⟨mm_n_ldR _ _, mm_n_gfI _ _ _, mm_n_lt1 _ _, mm_n_ldR _ _, mm_n_gfI _ _ _, mm_n_k _ _, mm_n_lt2 _ _, mm_n_k _ _, mm_n_rtI, mm_n_k _ _, mm_n_stI _ _, mm_n_ldI _ _, mm_n_ldR _ _, mm_n_gfI _ _ _, mm_n_ge2 _ _, mm_n_ldI _ _, mm_n_k _ _, mm_n_ge2 _ _, mm_n_ldR _ _, mm_n_gfR _ _ _, mm_n_ldR _ _, mm_n_gfI _ _ _, mm_n_k _ _, mm_n_i2 _ _, mm_n_ldI _ _, mm_n_i2 _ _, mm_n_ldR _ _, mm_n_gfR _ _ _, mm_n_ldI _ _, mm_n_ald _ _, mm_n_ast _ _ _, mm_n_inc _ _ _, mm_n_go _, mm_n_ldR _ _, mm_n_gfR _ _ _, mm_n_ldR _ _, mm_n_gfI _ _ _, mm_n_ldR _ _, mm_n_gfI _ _ _, mm_n_ast _ _ _, mm_n_ldR _ _, mm_n_gfR _ _ _, mm_n_ldR _ _, mm_n_gfI _ _ _, mm_n_k _ _, mm_n_ast _ _ _, mm_n_ldR _ _, mm_n_dup _, mm_n_gfI _ _ _, mm_n_k _ _, mm_n_i2 _ _, mm_n_pfI _ _ _, mm_n_ldR _ _, mm_n_k _ _, mm_n_pfI _ _ _, mm_n_ldR _ _, mm_n_ldR _ _, mm_n_gfI _ _ _, mm_n_k _ _, mm_n_i2 _ _, mm_n_clV _ _ _ (mo_X5_translate), mm_n_ldR _ _, mm_n_gfI _ _ _, mm_n_k _ _, mm_n_i2 _ _, mm_n_rtI, trivial⟩
theorem mo_X5_keep : mm_Mo f_X5_keep := mm_do_mo (mm_alln_mem mn_X5_keep)
set_option maxRecDepth 10000 in
theorem ok_X5_keep {l : Launch} (hl : l.stackTraces = false) : mm_Ok l yX5_keep cX5_keep 2 (some .int) 4 90 tb_X5_keep := by
  refine ⟨mm_alln_mem mn_X5_keep, fun p e cells slots s m args below meth c D tc A S ad Tg X hret hname htab hth => mm_allr_mem ?_⟩
  exact ⟨mm_r_aload_n X (show decode cX5_keep 0 = .ok (.aload_n 0, 1) by decide +kernel) rfl,
    mm_r_gfI X (ci := 5) (p := 7) (show mm_kd 5 7 = 0 by decide +kernel) rfl (Nat.le_of_ble_eq_true rfl) (show decode cX5_keep 1 = .ok (.getfield 46, 3) by decide +kernel) mw_358 rfl,
    mm_r_lt1 X (show decode cX5_keep 4 = .ok (.ifCond .lt 12, 3) by decide +kernel) (by decide),
    mm_r_aload_n X (show decode cX5_keep 7 = .ok (.aload_n 0, 1) by decide +kernel) rfl,
    mm_r_gfI X (ci := 5) (p := 7) (show mm_kd 5 7 = 0 by decide +kernel) rfl (Nat.le_of_ble_eq_true rfl) (show decode cX5_keep 8 = .ok (.getfield 46, 3) by decide +kernel) mw_358 rfl,
    mm_r_bipush X (show decode cX5_keep 11 = .ok (.bipush 6, 2) by decide +kernel) rfl,
    mm_r_lt2 X (show decode cX5_keep 13 = .ok (.if_icmp .lt 5, 3) by decide +kernel) (by decide),
    mm_r_iconst X (show decode cX5_keep 16 = .ok (.iconst (-1), 1) by decide +kernel) rfl,
    mm_r_iret X hret (show decode cX5_keep 17 = .ok (.ireturn, 1) by decide +kernel),
    mm_r_iconst X (show decode cX5_keep 18 = .ok (.iconst 0, 1) by decide +kernel) rfl,
    mm_r_istore_n X (show decode cX5_keep 19 = .ok (.istore_n 1, 1) by decide +kernel) rfl (Nat.le_of_ble_eq_true rfl),
    mm_r_iload_n X (show decode cX5_keep 20 = .ok (.iload_n 1, 1) by decide +kernel) rfl,
    mm_r_aload_n X (show decode cX5_keep 21 = .ok (.aload_n 0, 1) by decide +kernel) rfl,
    mm_r_gfI X (ci := 5) (p := 6) (show mm_kd 5 6 = 0 by decide +kernel) rfl (Nat.le_of_ble_eq_true rfl) (show decode cX5_keep 22 = .ok (.getfield 40, 3) by decide +kernel) mw_356 rfl,
    mm_r_ge2 X (show decode cX5_keep 25 = .ok (.if_icmp .ge 35, 3) by decide +kernel) (by decide),
    mm_r_iload_n X (show decode cX5_keep 28 = .ok (.iload_n 1, 1) by decide +kernel) rfl,
    mm_r_bipush X (show decode cX5_keep 29 = .ok (.bipush 30, 2) by decide +kernel) rfl,
    mm_r_ge2 X (show decode cX5_keep 31 = .ok (.if_icmp .ge 29, 3) by decide +kernel) (by decide),
    mm_r_aload_n X (show decode cX5_keep 34 = .ok (.aload_n 0, 1) by decide +kernel) rfl,
    mm_r_gfR X (ci := 5) (p := 2) (show mm_kd 5 2 = 2 by decide +kernel) rfl (Nat.le_of_ble_eq_true rfl) (show decode cX5_keep 35 = .ok (.getfield 15, 3) by decide +kernel) mw_352 rfl,
    mm_r_aload_n X (show decode cX5_keep 38 = .ok (.aload_n 0, 1) by decide +kernel) rfl,
    mm_r_gfI X (ci := 5) (p := 7) (show mm_kd 5 7 = 0 by decide +kernel) rfl (Nat.le_of_ble_eq_true rfl) (show decode cX5_keep 39 = .ok (.getfield 46, 3) by decide +kernel) mw_358 rfl,
    mm_r_bipush X (show decode cX5_keep 42 = .ok (.bipush 30, 2) by decide +kernel) rfl,
    mm_r_imul X (show decode cX5_keep 44 = .ok (.imul, 1) by decide +kernel),
    mm_r_iload_n X (show decode cX5_keep 45 = .ok (.iload_n 1, 1) by decide +kernel) rfl,
    mm_r_iadd X (show decode cX5_keep 46 = .ok (.iadd, 1) by decide +kernel),
    mm_r_aload_n X (show decode cX5_keep 47 = .ok (.aload_n 0, 1) by decide +kernel) rfl,
    mm_r_gfR X (ci := 5) (p := 1) (show mm_kd 5 1 = 2 by decide +kernel) rfl (Nat.le_of_ble_eq_true rfl) (show decode cX5_keep 48 = .ok (.getfield 11, 3) by decide +kernel) mw_351 rfl,
    mm_r_iload_n X (show decode cX5_keep 51 = .ok (.iload_n 1, 1) by decide +kernel) rfl,
    mm_r_cald X (show decode cX5_keep 52 = .ok (.caload, 1) by decide +kernel),
    mm_r_cast X (show decode cX5_keep 53 = .ok (.castore, 1) by decide +kernel),
    mm_r_iinc X (show decode cX5_keep 54 = .ok (.iinc 1 1, 3) by decide +kernel) rfl (Nat.le_of_ble_eq_true rfl),
    mm_r_goto X (show decode cX5_keep 57 = .ok (.goto (-37), 3) by decide +kernel) (by decide),
    mm_r_aload_n X (show decode cX5_keep 60 = .ok (.aload_n 0, 1) by decide +kernel) rfl,
    mm_r_gfR X (ci := 5) (p := 3) (show mm_kd 5 3 = 2 by decide +kernel) rfl (Nat.le_of_ble_eq_true rfl) (show decode cX5_keep 61 = .ok (.getfield 18, 3) by decide +kernel) mw_353 rfl,
    mm_r_aload_n X (show decode cX5_keep 64 = .ok (.aload_n 0, 1) by decide +kernel) rfl,
    mm_r_gfI X (ci := 5) (p := 7) (show mm_kd 5 7 = 0 by decide +kernel) rfl (Nat.le_of_ble_eq_true rfl) (show decode cX5_keep 65 = .ok (.getfield 46, 3) by decide +kernel) mw_358 rfl,
    mm_r_aload_n X (show decode cX5_keep 68 = .ok (.aload_n 0, 1) by decide +kernel) rfl,
    mm_r_gfI X (ci := 5) (p := 6) (show mm_kd 5 6 = 0 by decide +kernel) rfl (Nat.le_of_ble_eq_true rfl) (show decode cX5_keep 69 = .ok (.getfield 40, 3) by decide +kernel) mw_356 rfl,
    mm_r_iast X (show decode cX5_keep 72 = .ok (.iastore, 1) by decide +kernel),
    mm_r_aload_n X (show decode cX5_keep 73 = .ok (.aload_n 0, 1) by decide +kernel) rfl,
    mm_r_gfR X (ci := 5) (p := 5) (show mm_kd 5 5 = 2 by decide +kernel) rfl (Nat.le_of_ble_eq_true rfl) (show decode cX5_keep 74 = .ok (.getfield 25, 3) by decide +kernel) mw_355 rfl,
    mm_r_aload_n X (show decode cX5_keep 77 = .ok (.aload_n 0, 1) by decide +kernel) rfl,
    mm_r_gfI X (ci := 5) (p := 7) (show mm_kd 5 7 = 0 by decide +kernel) rfl (Nat.le_of_ble_eq_true rfl) (show decode cX5_keep 78 = .ok (.getfield 46, 3) by decide +kernel) mw_358 rfl,
    mm_r_iconst X (show decode cX5_keep 81 = .ok (.iconst 0, 1) by decide +kernel) rfl,
    mm_r_iast X (show decode cX5_keep 82 = .ok (.iastore, 1) by decide +kernel),
    mm_r_aload_n X (show decode cX5_keep 83 = .ok (.aload_n 0, 1) by decide +kernel) rfl,
    mm_r_dup X (show decode cX5_keep 84 = .ok (.dup, 1) by decide +kernel),
    mm_r_gfI X (ci := 5) (p := 7) (show mm_kd 5 7 = 0 by decide +kernel) rfl (Nat.le_of_ble_eq_true rfl) (show decode cX5_keep 85 = .ok (.getfield 46, 3) by decide +kernel) mw_358 rfl,
    mm_r_iconst X (show decode cX5_keep 88 = .ok (.iconst 1, 1) by decide +kernel) rfl,
    mm_r_iadd X (show decode cX5_keep 89 = .ok (.iadd, 1) by decide +kernel),
    mm_r_pfI X (ci := 5) (p := 7) (show mm_kd 5 7 = 0 by decide +kernel) rfl rfl (Nat.le_of_ble_eq_true rfl) (show decode cX5_keep 90 = .ok (.putfield 46, 3) by decide +kernel) mw_358 rfl rfl,
    mm_r_aload_n X (show decode cX5_keep 93 = .ok (.aload_n 0, 1) by decide +kernel) rfl,
    mm_r_iconst X (show decode cX5_keep 94 = .ok (.iconst 0, 1) by decide +kernel) rfl,
    mm_r_pfI X (ci := 5) (p := 6) (show mm_kd 5 6 = 0 by decide +kernel) rfl rfl (Nat.le_of_ble_eq_true rfl) (show decode cX5_keep 95 = .ok (.putfield 40, 3) by decide +kernel) mw_356 rfl rfl,
    mm_r_aload_n X (show decode cX5_keep 98 = .ok (.aload_n 0, 1) by decide +kernel) rfl,
    mm_r_aload_n X (show decode cX5_keep 99 = .ok (.aload_n 0, 1) by decide +kernel) rfl,
    mm_r_gfI X (ci := 5) (p := 7) (show mm_kd 5 7 = 0 by decide +kernel) rfl (Nat.le_of_ble_eq_true rfl) (show decode cX5_keep 100 = .ok (.getfield 46, 3) by decide +kernel) mw_358 rfl,
    mm_r_iconst X (show decode cX5_keep 103 = .ok (.iconst 1, 1) by decide +kernel) rfl,
    mm_r_isub X (show decode cX5_keep 104 = .ok (.isub, 1) by decide +kernel),
    mm_r_clV X hth (ci := 5) (na := 1) (sn_X5_translate hl) rfl (show decode cX5_keep 105 = .ok (.invokevirtual 49, 3) by decide +kernel) mw_1033 mw_1030 mw_1032 mw_37 mw_53 hd_X5_translate ⟨(Nat.le_of_ble_eq_true rfl), (Nat.le_of_ble_eq_true rfl)⟩,
    mm_r_aload_n X (show decode cX5_keep 108 = .ok (.aload_n 0, 1) by decide +kernel) rfl,
    mm_r_gfI X (ci := 5) (p := 7) (show mm_kd 5 7 = 0 by decide +kernel) rfl (Nat.le_of_ble_eq_true rfl) (show decode cX5_keep 109 = .ok (.getfield 46, 3) by decide +kernel) mw_358 rfl,
    mm_r_iconst X (show decode cX5_keep 112 = .ok (.iconst 1, 1) by decide +kernel) rfl,
    mm_r_isub X (show decode cX5_keep 113 = .ok (.isub, 1) by decide +kernel),
    mm_r_iret X hret (show decode cX5_keep 114 = .ok (.ireturn, 1) by decide +kernel), trivial⟩
theorem sn_X5_keep {l : Launch} (hl : l.stackTraces = false) : mm_Snd l yX5_keep (.code yX5_keep cX5_keep 2 (some .int)) 4 90 f_X5_keep := mm_met hl (plainFor_of_name (by decide +kernel)) (ok_X5_keep hl)
/-! Linkcourt.pattern()I -/
noncomputable def tb_X10_pattern : List (Nat × mm_I) := [(0, mm_ldR 1 0), (1, mm_gfR 4 10 6), (4, mm_clV 7 5 0 f_X5_firstFault), (7, mm_k 8 (.int (-1))), (8, mm_eq2 22 11), (11, mm_thr 2), (22, mm_ldR 23 0), (23, mm_gfR 26 10 6), (26, mm_gfI 29 5 7), (29, mm_k 31 (.int 6)), (31, mm_lt2 45 34), (34, mm_thr 3), (45, mm_ldR 46 0), (46, mm_gfR 49 10 6), (49, mm_clV 52 5 0 f_X5_keep), (52, mm_rtI)]
noncomputable def f_X10_pattern : mm_F := mm_do (mm_pr tb_X10_pattern) 1
theorem mn_X10_pattern : mm_alln tb_X10_pattern := ⟨mm_n_ldR _ _, mm_n_gfR _ _ _, mm_n_clV _ _ _ (mo_X5_firstFault), mm_n_k _ _, mm_n_eq2 _ _, mm_n_thr _, mm_n_ldR _ _, mm_n_gfR _ _ _, mm_n_gfI _ _ _, mm_n_k _ _, mm_n_lt2 _ _, mm_n_thr _, mm_n_ldR _ _, mm_n_gfR _ _ _, mm_n_clV _ _ _ (mo_X5_keep), mm_n_rtI, trivial⟩
theorem mo_X10_pattern : mm_Mo f_X10_pattern := mm_do_mo (mm_alln_mem mn_X10_pattern)
set_option maxRecDepth 10000 in
theorem ok_X10_pattern {l : Launch} (hl : l.stackTraces = false) : mm_Ok l yX10_pattern cX10_pattern 1 (some .int) 6 111 tb_X10_pattern := by
  refine ⟨mm_alln_mem mn_X10_pattern, fun p e cells slots s m args below meth c D tc A S ad Tg X hret hname htab hth => mm_allr_mem ?_⟩
  exact ⟨mm_r_aload_n X (show decode cX10_pattern 0 = .ok (.aload_n 0, 1) by decide +kernel) rfl,
    mm_r_gfR X (ci := 10) (p := 6) (show mm_kd 10 6 = 2 by decide +kernel) rfl (Nat.le_of_ble_eq_true rfl) (show decode cX10_pattern 1 = .ok (.getfield 63, 3) by decide +kernel) mw_434 rfl,
    mm_r_clV X hth (ci := 5) (na := 0) (sn_X5_firstFault hl) rfl (show decode cX10_pattern 4 = .ok (.invokevirtual 299, 3) by decide +kernel) mw_681 mw_678 mw_679 mw_680 mw_53 hd_X5_firstFault ⟨(Nat.le_of_ble_eq_true rfl), (Nat.le_of_ble_eq_true rfl)⟩,
    mm_r_iconst X (show decode cX10_pattern 7 = .ok (.iconst (-1), 1) by decide +kernel) rfl,
    mm_r_eq2 X (show decode cX10_pattern 8 = .ok (.if_icmp .eq 14, 3) by decide +kernel) (by decide),
    mm_r_thrW X htab (E := 2) (ik := 85) (is := 302) (ic := 89) (text := "the tape is no pattern") (by decide) rfl mm_aw2 mw_494 mw_59 (by decide +kernel) (show decode cX10_pattern 11 = .ok (.new 85, 3) by decide +kernel) (show decode cX10_pattern 14 = .ok (.dup, 1) by decide +kernel) (show decode cX10_pattern 15 = .ok (.ldc_w 302, 3) by decide +kernel) (show decode cX10_pattern 18 = .ok (.invokespecial 89, 3) by decide +kernel) (show decode cX10_pattern 21 = .ok (.athrow, 1) by decide +kernel) (Nat.le_of_ble_eq_true rfl) (Nat.le_of_ble_eq_true rfl),
    mm_r_aload_n X (show decode cX10_pattern 22 = .ok (.aload_n 0, 1) by decide +kernel) rfl,
    mm_r_gfR X (ci := 10) (p := 6) (show mm_kd 10 6 = 2 by decide +kernel) rfl (Nat.le_of_ble_eq_true rfl) (show decode cX10_pattern 23 = .ok (.getfield 63, 3) by decide +kernel) mw_434 rfl,
    mm_r_gfI X (ci := 5) (p := 7) (show mm_kd 5 7 = 0 by decide +kernel) rfl (Nat.le_of_ble_eq_true rfl) (show decode cX10_pattern 26 = .ok (.getfield 304, 3) by decide +kernel) mw_359 rfl,
    mm_r_bipush X (show decode cX10_pattern 29 = .ok (.bipush 6, 2) by decide +kernel) rfl,
    mm_r_lt2 X (show decode cX10_pattern 31 = .ok (.if_icmp .lt 14, 3) by decide +kernel) (by decide),
    mm_r_thrW X htab (E := 3) (ik := 129) (is := 307) (ic := 133) (text := "there are 6 patterns") (by decide) rfl mm_aw3 mw_729 mw_62 (by decide +kernel) (show decode cX10_pattern 34 = .ok (.new 129, 3) by decide +kernel) (show decode cX10_pattern 37 = .ok (.dup, 1) by decide +kernel) (show decode cX10_pattern 38 = .ok (.ldc_w 307, 3) by decide +kernel) (show decode cX10_pattern 41 = .ok (.invokespecial 133, 3) by decide +kernel) (show decode cX10_pattern 44 = .ok (.athrow, 1) by decide +kernel) (Nat.le_of_ble_eq_true rfl) (Nat.le_of_ble_eq_true rfl),
    mm_r_aload_n X (show decode cX10_pattern 45 = .ok (.aload_n 0, 1) by decide +kernel) rfl,
    mm_r_gfR X (ci := 10) (p := 6) (show mm_kd 10 6 = 2 by decide +kernel) rfl (Nat.le_of_ble_eq_true rfl) (show decode cX10_pattern 46 = .ok (.getfield 63, 3) by decide +kernel) mw_434 rfl,
    mm_r_clV X hth (ci := 5) (na := 0) (sn_X5_keep hl) rfl (show decode cX10_pattern 49 = .ok (.invokevirtual 309, 3) by decide +kernel) mw_1029 mw_1026 mw_1027 mw_1028 mw_53 hd_X5_keep ⟨(Nat.le_of_ble_eq_true rfl), (Nat.le_of_ble_eq_true rfl)⟩,
    mm_r_iret X hret (show decode cX10_pattern 52 = .ok (.ireturn, 1) by decide +kernel), trivial⟩
theorem sn_X10_pattern {l : Launch} (hl : l.stackTraces = false) : mm_Snd l yX10_pattern (.code yX10_pattern cX10_pattern 1 (some .int)) 6 111 f_X10_pattern := mm_met hl (plainFor_of_name (by decide +kernel)) (ok_X10_pattern hl)
/-! Linkcourt$Patterns.thing(IJJ)I -/
noncomputable def tb_X5_thing : List (Nat × mm_I) := [(0, mm_ldI 1 0), (1, mm_k 2 (.int (-1))), (2, mm_ne2 10 5), (5, mm_k 7 (.int 8)), (7, mm_go 35), (10, mm_ldJ 11 1), (11, mm_ldI 12 0), (12, mm_clS 15 2 f_X10_has), (15, mm_eq1 22 18), (18, mm_k 19 (.int 2)), (19, mm_go 35), (22, mm_ldJ 23 3), (23, mm_ldI 24 0), (24, mm_clS 27 2 f_X10_has), (27, mm_eq1 34 30), (30, mm_k 31 (.int 4)), (31, mm_go 35), (34, mm_k 35 (.int 1)), (35, mm_rtI)]
noncomputable def f_X5_thing : mm_F := mm_do (mm_pr tb_X5_thing) 5
theorem mn_X5_thing : mm_alln tb_X5_thing := ⟨mm_n_ldI _ _, mm_n_k _ _, mm_n_ne2 _ _, mm_n_k _ _, mm_n_go _, mm_n_ldJ _ _, mm_n_ldI _ _, mm_n_clS _ _ (mo_X10_has), mm_n_eq1 _ _, mm_n_k _ _, mm_n_go _, mm_n_ldJ _ _, mm_n_ldI _ _, mm_n_clS _ _ (mo_X10_has), mm_n_eq1 _ _, mm_n_k _ _, mm_n_go _, mm_n_k _ _, mm_n_rtI, trivial⟩
theorem mo_X5_thing : mm_Mo f_X5_thing := mm_do_mo (mm_alln_mem mn_X5_thing)
set_option maxRecDepth 10000 in
theorem ok_X5_thing {l : Launch} (hl : l.stackTraces = false) : mm_Ok l yX5_thing cX5_thing 5 (some .int) 2 42 tb_X5_thing := by
  refine ⟨mm_alln_mem mn_X5_thing, fun p e cells slots s m args below meth c D tc A S ad Tg X hret hname htab hth => mm_allr_mem ?_⟩
  exact ⟨mm_r_iload_n X (show decode cX5_thing 0 = .ok (.iload_n 0, 1) by decide +kernel) rfl,
    mm_r_iconst X (show decode cX5_thing 1 = .ok (.iconst (-1), 1) by decide +kernel) rfl,
    mm_r_ne2 X (show decode cX5_thing 2 = .ok (.if_icmp .ne 8, 3) by decide +kernel) (by decide),
    mm_r_bipush X (show decode cX5_thing 5 = .ok (.bipush 8, 2) by decide +kernel) rfl,
    mm_r_goto X (show decode cX5_thing 7 = .ok (.goto 28, 3) by decide +kernel) (by decide),
    mm_r_lload_n X (show decode cX5_thing 10 = .ok (.lload_n 1, 1) by decide +kernel) rfl,
    mm_r_iload_n X (show decode cX5_thing 11 = .ok (.iload_n 0, 1) by decide +kernel) rfl,
    mm_r_clSN X hth (na := 2) (sn_X10_has hl) (show decode cX5_thing 12 = .ok (.invokestatic 67, 3) by decide +kernel) mw_593 (show ("Linkcourt$Patterns", 67, yX10_has) ∈ mm_nest by decide +kernel) mw_592 mw_44 hd_X10_has.2 ⟨(Nat.le_of_ble_eq_true rfl), (Nat.le_of_ble_eq_true rfl)⟩,
    mm_r_eq1 X (show decode cX5_thing 15 = .ok (.ifCond .eq 7, 3) by decide +kernel) (by decide),
    mm_r_iconst X (show decode cX5_thing 18 = .ok (.iconst 2, 1) by decide +kernel) rfl,
    mm_r_goto X (show decode cX5_thing 19 = .ok (.goto 16, 3) by decide +kernel) (by decide),
    mm_r_lload_n X (show decode cX5_thing 22 = .ok (.lload_n 3, 1) by decide +kernel) rfl,
    mm_r_iload_n X (show decode cX5_thing 23 = .ok (.iload_n 0, 1) by decide +kernel) rfl,
    mm_r_clSN X hth (na := 2) (sn_X10_has hl) (show decode cX5_thing 24 = .ok (.invokestatic 67, 3) by decide +kernel) mw_593 (show ("Linkcourt$Patterns", 67, yX10_has) ∈ mm_nest by decide +kernel) mw_592 mw_44 hd_X10_has.2 ⟨(Nat.le_of_ble_eq_true rfl), (Nat.le_of_ble_eq_true rfl)⟩,
    mm_r_eq1 X (show decode cX5_thing 27 = .ok (.ifCond .eq 7, 3) by decide +kernel) (by decide),
    mm_r_iconst X (show decode cX5_thing 30 = .ok (.iconst 4, 1) by decide +kernel) rfl,
    mm_r_goto X (show decode cX5_thing 31 = .ok (.goto 4, 3) by decide +kernel) (by decide),
    mm_r_iconst X (show decode cX5_thing 34 = .ok (.iconst 1, 1) by decide +kernel) rfl,
    mm_r_iret X hret (show decode cX5_thing 35 = .ok (.ireturn, 1) by decide +kernel), trivial⟩
theorem sn_X5_thing {l : Launch} (hl : l.stackTraces = false) : mm_Snd l yX5_thing (.code yX5_thing cX5_thing 5 (some .int)) 2 42 f_X5_thing := mm_met hl (plainFor_of_name (by decide +kernel)) (ok_X5_thing hl)
/-! Linkcourt$Patterns.surroundings(IJJ)I -/
noncomputable def tb_X5_surroundings : List (Nat × mm_I) := [(0, mm_k 1 (.int 0)), (1, mm_stI 3 6), (3, mm_k 4 (.int 0)), (4, mm_stI 6 7), (6, mm_ldI 8 7), (8, mm_k 10 (.int 6)), (10, mm_ge2 45 13), (13, mm_ldI 15 6), (15, mm_ldR 16 0), (16, mm_gfR 19 5 0), (19, mm_ldI 20 1), (20, mm_ldI 22 7), (22, mm_clV 25 1 2 f_X1_next), (25, mm_ldJ 26 2), (26, mm_ldJ 28 4), (28, mm_clS 31 3 f_X5_thing), (31, mm_k 32 (.int 4)), (32, mm_ldI 34 7), (34, mm_i2 35 (fun a b => a * b)), (35, mm_i2 36 (fun a b => a <<< (b &&& 31))), (36, mm_i2 37 (fun a b => a ||| b)), (37, mm_stI 39 6), (39, mm_inc 42 7 1), (42, mm_go 6), (45, mm_ldI 47 6), (47, mm_rtI)]
noncomputable def f_X5_surroundings : mm_F := mm_do (mm_pr tb_X5_surroundings) 8
theorem mn_X5_surroundings : mm_alln tb_X5_surroundings := ⟨mm_n_k _ _, mm_n_stI _ _, mm_n_k _ _, mm_n_stI _ _, mm_n_ldI _ _, mm_n_k _ _, mm_n_ge2 _ _, mm_n_ldI _ _, mm_n_ldR _ _, mm_n_gfR _ _ _, mm_n_ldI _ _, mm_n_ldI _ _, mm_n_clV _ _ _ (mo_X1_next), mm_n_ldJ _ _, mm_n_ldJ _ _, mm_n_clS _ _ (mo_X5_thing), mm_n_k _ _, mm_n_ldI _ _, mm_n_i2 _ _, mm_n_i2 _ _, mm_n_i2 _ _, mm_n_stI _ _, mm_n_inc _ _ _, mm_n_go _, mm_n_ldI _ _, mm_n_rtI, trivial⟩
theorem mo_X5_surroundings : mm_Mo f_X5_surroundings := mm_do_mo (mm_alln_mem mn_X5_surroundings)
set_option maxRecDepth 10000 in
theorem ok_X5_surroundings {l : Launch} (hl : l.stackTraces = false) : mm_Ok l yX5_surroundings cX5_surroundings 8 (some .int) 3 66 tb_X5_surroundings := by
  refine ⟨mm_alln_mem mn_X5_surroundings, fun p e cells slots s m args below meth c D tc A S ad Tg X hret hname htab hth => mm_allr_mem ?_⟩
  exact ⟨mm_r_iconst X (show decode cX5_surroundings 0 = .ok (.iconst 0, 1) by decide +kernel) rfl,
    mm_r_istore X (show decode cX5_surroundings 1 = .ok (.istore 6, 2) by decide +kernel) (Nat.le_of_ble_eq_true rfl),
    mm_r_iconst X (show decode cX5_surroundings 3 = .ok (.iconst 0, 1) by decide +kernel) rfl,
    mm_r_istore X (show decode cX5_surroundings 4 = .ok (.istore 7, 2) by decide +kernel) (Nat.le_of_ble_eq_true rfl),
    mm_r_iload X (show decode cX5_surroundings 6 = .ok (.iload 7, 2) by decide +kernel),
    mm_r_bipush X (show decode cX5_surroundings 8 = .ok (.bipush 6, 2) by decide +kernel) rfl,
    mm_r_ge2 X (show decode cX5_surroundings 10 = .ok (.if_icmp .ge 35, 3) by decide +kernel) (by decide),
    mm_r_iload X (show decode cX5_surroundings 13 = .ok (.iload 6, 2) by decide +kernel),
    mm_r_aload_n X (show decode cX5_surroundings 15 = .ok (.aload_n 0, 1) by decide +kernel) rfl,
    mm_r_gfR X (ci := 5) (p := 0) (show mm_kd 5 0 = 2 by decide +kernel) rfl (Nat.le_of_ble_eq_true rfl) (show decode cX5_surroundings 16 = .ok (.getfield 28, 3) by decide +kernel) mw_350 rfl,
    mm_r_iload_n X (show decode cX5_surroundings 19 = .ok (.iload_n 1, 1) by decide +kernel) rfl,
    mm_r_iload X (show decode cX5_surroundings 20 = .ok (.iload 7, 2) by decide +kernel),
    mm_r_clV X hth (ci := 1) (na := 2) (sn_X1_next hl) rfl (show decode cX5_surroundings 22 = .ok (.invokevirtual 79, 3) by decide +kernel) mw_635 mw_632 mw_633 mw_634 mw_45 hd_X1_next ⟨(Nat.le_of_ble_eq_true rfl), (Nat.le_of_ble_eq_true rfl)⟩,
    mm_r_lload_n X (show decode cX5_surroundings 25 = .ok (.lload_n 2, 1) by decide +kernel) rfl,
    mm_r_lload X (show decode cX5_surroundings 26 = .ok (.lload 4, 2) by decide +kernel),
    mm_r_clS X hth (na := 3) (sn_X5_thing hl) (show decode cX5_surroundings 28 = .ok (.invokestatic 83, 3) by decide +kernel) mw_639 mw_637 mw_638 mw_53 hd_X5_thing.2 ⟨(Nat.le_of_ble_eq_true rfl), (Nat.le_of_ble_eq_true rfl)⟩,
    mm_r_iconst X (show decode cX5_surroundings 31 = .ok (.iconst 4, 1) by decide +kernel) rfl,
    mm_r_iload X (show decode cX5_surroundings 32 = .ok (.iload 7, 2) by decide +kernel),
    mm_r_imul X (show decode cX5_surroundings 34 = .ok (.imul, 1) by decide +kernel),
    mm_r_ishl X (show decode cX5_surroundings 35 = .ok (.ishl, 1) by decide +kernel),
    mm_r_ior X (show decode cX5_surroundings 36 = .ok (.ior, 1) by decide +kernel),
    mm_r_istore X (show decode cX5_surroundings 37 = .ok (.istore 6, 2) by decide +kernel) (Nat.le_of_ble_eq_true rfl),
    mm_r_iinc X (show decode cX5_surroundings 39 = .ok (.iinc 7 1, 3) by decide +kernel) rfl (Nat.le_of_ble_eq_true rfl),
    mm_r_goto X (show decode cX5_surroundings 42 = .ok (.goto (-36), 3) by decide +kernel) (by decide),
    mm_r_iload X (show decode cX5_surroundings 45 = .ok (.iload 6, 2) by decide +kernel),
    mm_r_iret X hret (show decode cX5_surroundings 47 = .ok (.ireturn, 1) by decide +kernel), trivial⟩
theorem sn_X5_surroundings {l : Launch} (hl : l.stackTraces = false) : mm_Snd l yX5_surroundings (.code yX5_surroundings cX5_surroundings 8 (some .int)) 3 66 f_X5_surroundings := mm_met hl (plainFor_of_name (by decide +kernel)) (ok_X5_surroundings hl)
/-! Linkcourt$Patterns.rowFits(II)Z -/
noncomputable def tb_X5_rowFits : List (Nat × mm_I) := [(0, mm_ldI 1 0), (1, mm_k 3 (.int 16777215)), (3, mm_i2 4 (fun a b => a &&& b)), (4, mm_stI 5 2), (5, mm_ldI 6 0), (6, mm_k 8 (.int 16777216)), (8, mm_i2 9 (fun a b => a &&& b)), (9, mm_eq1 16 12), (12, mm_k 13 (.int 1)), (13, mm_go 18), (16, mm_k 18 (.int 6)), (18, mm_stI 19 3), (19, mm_k 20 (.int 0)), (20, mm_stI 22 4), (22, mm_ldI 24 4), (24, mm_ldI 25 3), (25, mm_ge2 56 28), (28, mm_ldI 29 1), (29, mm_ldI 30 2), (30, mm_k 31 (.int (-1))), (31, mm_i2 32 (fun a b => a ^^^ b)), (32, mm_i2 33 (fun a b => a &&& b)), (33, mm_ne1 38 36), (36, mm_k 37 (.int 1)), (37, mm_rtZ), (38, mm_ldI 39 2), (39, mm_k 40 (.int 4)), (40, mm_i2 41 (fun a b => a <<< (b &&& 31))), (41, mm_ldI 42 2), (42, mm_k 44 (.int 20)), (44, mm_i2 45 (fun a b => a >>> (b &&& 31))), (45, mm_i2 46 (fun a b => a ||| b)), (46, mm_k 48 (.int 16777215)), (48, mm_i2 49 (fun a b => a &&& b)), (49, mm_stI 50 2), (50, mm_inc 53 4 1), (53, mm_go 22), (56, mm_k 57 (.int 0)), (57, mm_rtZ)]
noncomputable def f_X5_rowFits : mm_F := mm_do (mm_pr tb_X5_rowFits) 5
theorem mn_X5_rowFits : mm_alln tb_X5_rowFits := ⟨mm_n_ldI _ _, mm_n_k _ _, mm_n_i2 _ _, mm_n_stI _ _, mm_n_ldI _ _, mm_n_k _ _, mm_n_i2 _ _, mm_n_eq1 _ _, mm_n_k _ _, mm_n_go _, mm_n_k _ _, mm_n_stI _ _, mm_n_k _ _, mm_n_stI _ _, mm_n_ldI _ _, mm_n_ldI _ _, mm_n_ge2 _ _, mm_n_ldI _ _, mm_n_ldI _ _, mm_n_k _ _, mm_n_i2 _ _, mm_n_i2 _ _, mm_n_ne1 _ _, mm_n_k _ _, mm_n_rtZ, mm_n_ldI _ _, mm_n_k _ _, mm_n_i2 _ _, mm_n_ldI _ _, mm_n_k _ _, mm_n_i2 _ _, mm_n_i2 _ _, mm_n_k _ _, mm_n_i2 _ _, mm_n_stI _ _, mm_n_inc _ _ _, mm_n_go _, mm_n_k _ _, mm_n_rtZ, trivial⟩
theorem mo_X5_rowFits : mm_Mo f_X5_rowFits := mm_do_mo (mm_alln_mem mn_X5_rowFits)
set_option maxRecDepth 10000 in
theorem ok_X5_rowFits {l : Launch} (hl : l.stackTraces = false) : mm_Ok l yX5_rowFits cX5_rowFits 5 (some .boolean) 1 20 tb_X5_rowFits := by
  refine ⟨mm_alln_mem mn_X5_rowFits, fun p e cells slots s m args below meth c D tc A S ad Tg X hret hname htab hth => mm_allr_mem ?_⟩
  exact ⟨mm_r_iload_n X (show decode cX5_rowFits 0 = .ok (.iload_n 0, 1) by decide +kernel) rfl,
    mm_r_ldc X (show decode cX5_rowFits 1 = .ok (.ldc 89, 2) by decide +kernel) mw_648,
    mm_r_iand X (show decode cX5_rowFits 3 = .ok (.iand, 1) by decide +kernel),
    mm_r_istore_n X (show decode cX5_rowFits 4 = .ok (.istore_n 2, 1) by decide +kernel) rfl (Nat.le_of_ble_eq_true rfl),
    mm_r_iload_n X (show decode cX5_rowFits 5 = .ok (.iload_n 0, 1) by decide +kernel) rfl,
    mm_r_ldc X (show decode cX5_rowFits 6 = .ok (.ldc 61, 2) by decide +kernel) mw_649,
    mm_r_iand X (show decode cX5_rowFits 8 = .ok (.iand, 1) by decide +kernel),
    mm_r_eq1 X (show decode cX5_rowFits 9 = .ok (.ifCond .eq 7, 3) by decide +kernel) (by decide),
    mm_r_iconst X (show decode cX5_rowFits 12 = .ok (.iconst 1, 1) by decide +kernel) rfl,
    mm_r_goto X (show decode cX5_rowFits 13 = .ok (.goto 5, 3) by decide +kernel) (by decide),
    mm_r_bipush X (show decode cX5_rowFits 16 = .ok (.bipush 6, 2) by decide +kernel) rfl,
    mm_r_istore_n X (show decode cX5_rowFits 18 = .ok (.istore_n 3, 1) by decide +kernel) rfl (Nat.le_of_ble_eq_true rfl),
    mm_r_iconst X (show decode cX5_rowFits 19 = .ok (.iconst 0, 1) by decide +kernel) rfl,
    mm_r_istore X (show decode cX5_rowFits 20 = .ok (.istore 4, 2) by decide +kernel) (Nat.le_of_ble_eq_true rfl),
    mm_r_iload X (show decode cX5_rowFits 22 = .ok (.iload 4, 2) by decide +kernel),
    mm_r_iload_n X (show decode cX5_rowFits 24 = .ok (.iload_n 3, 1) by decide +kernel) rfl,
    mm_r_ge2 X (show decode cX5_rowFits 25 = .ok (.if_icmp .ge 31, 3) by decide +kernel) (by decide),
    mm_r_iload_n X (show decode cX5_rowFits 28 = .ok (.iload_n 1, 1) by decide +kernel) rfl,
    mm_r_iload_n X (show decode cX5_rowFits 29 = .ok (.iload_n 2, 1) by decide +kernel) rfl,
    mm_r_iconst X (show decode cX5_rowFits 30 = .ok (.iconst (-1), 1) by decide +kernel) rfl,
    mm_r_ixor X (show decode cX5_rowFits 31 = .ok (.ixor, 1) by decide +kernel),
    mm_r_iand X (show decode cX5_rowFits 32 = .ok (.iand, 1) by decide +kernel),
    mm_r_ne1 X (show decode cX5_rowFits 33 = .ok (.ifCond .ne 5, 3) by decide +kernel) (by decide),
    mm_r_iconst X (show decode cX5_rowFits 36 = .ok (.iconst 1, 1) by decide +kernel) rfl,
    mm_r_zret X hret (show decode cX5_rowFits 37 = .ok (.ireturn, 1) by decide +kernel),
    mm_r_iload_n X (show decode cX5_rowFits 38 = .ok (.iload_n 2, 1) by decide +kernel) rfl,
    mm_r_iconst X (show decode cX5_rowFits 39 = .ok (.iconst 4, 1) by decide +kernel) rfl,
    mm_r_ishl X (show decode cX5_rowFits 40 = .ok (.ishl, 1) by decide +kernel),
    mm_r_iload_n X (show decode cX5_rowFits 41 = .ok (.iload_n 2, 1) by decide +kernel) rfl,
    mm_r_bipush X (show decode cX5_rowFits 42 = .ok (.bipush 20, 2) by decide +kernel) rfl,
    mm_r_ishr X (show decode cX5_rowFits 44 = .ok (.ishr, 1) by decide +kernel),
    mm_r_ior X (show decode cX5_rowFits 45 = .ok (.ior, 1) by decide +kernel),
    mm_r_ldc X (show decode cX5_rowFits 46 = .ok (.ldc 89, 2) by decide +kernel) mw_648,
    mm_r_iand X (show decode cX5_rowFits 48 = .ok (.iand, 1) by decide +kernel),
    mm_r_istore_n X (show decode cX5_rowFits 49 = .ok (.istore_n 2, 1) by decide +kernel) rfl (Nat.le_of_ble_eq_true rfl),
    mm_r_iinc X (show decode cX5_rowFits 50 = .ok (.iinc 4 1, 3) by decide +kernel) rfl (Nat.le_of_ble_eq_true rfl),
    mm_r_goto X (show decode cX5_rowFits 53 = .ok (.goto (-31), 3) by decide +kernel) (by decide),
    mm_r_iconst X (show decode cX5_rowFits 56 = .ok (.iconst 0, 1) by decide +kernel) rfl,
    mm_r_zret X hret (show decode cX5_rowFits 57 = .ok (.ireturn, 1) by decide +kernel), trivial⟩
theorem sn_X5_rowFits {l : Launch} (hl : l.stackTraces = false) : mm_Snd l yX5_rowFits (.code yX5_rowFits cX5_rowFits 5 (some .boolean)) 1 20 f_X5_rowFits := mm_met hl (plainFor_of_name (by decide +kernel)) (ok_X5_rowFits hl)
/-! Linkcourt$Patterns.rowsFit(II)Z -/
noncomputable def tb_X5_rowsFit : List (Nat × mm_I) := [(0, mm_ldR 1 0), (1, mm_ldI 2 1), (2, mm_clV 5 5 1 f_X5_hasPattern), (5, mm_ne1 10 8), (8, mm_k 9 (.int 0)), (9, mm_rtZ), (10, mm_k 11 (.int 0)), (11, mm_stI 12 3), (12, mm_ldI 13 3), (13, mm_ldR 14 0), (14, mm_gfR 17 5 5), (17, mm_ldI 18 1), (18, mm_ald 19 0), (19, mm_ge2 52 22), (22, mm_ldI 23 3), (23, mm_k 24 (.int 4)), (24, mm_ge2 52 27), (27, mm_ldR 28 0), (28, mm_gfR 31 5 4), (31, mm_ldI 32 1), (32, mm_k 33 (.int 4)), (33, mm_i2 34 (fun a b => a * b)), (34, mm_ldI 35 3), (35, mm_i2 36 (fun a b => a + b)), (36, mm_ald 37 0), (37, mm_ldI 38 2), (38, mm_clS 41 2 f_X5_rowFits), (41, mm_eq1 46 44), (44, mm_k 45 (.int 1)), (45, mm_rtZ), (46, mm_inc 49 3 1), (49, mm_go 12), (52, mm_k 53 (.int 0)), (53, mm_rtZ)]
noncomputable def f_X5_rowsFit : mm_F := mm_do (mm_pr tb_X5_rowsFit) 4
theorem mn_X5_rowsFit : mm_alln tb_X5_rowsFit := ⟨mm_n_ldR _ _, mm_n_ldI _ _, mm_n_clV _ _ _ (mo_X5_hasPattern), mm_n_ne1 _ _, mm_n_k _ _, mm_n_rtZ, mm_n_k _ _, mm_n_stI _ _, mm_n_ldI _ _, mm_n_ldR _ _, mm_n_gfR _ _ _, mm_n_ldI _ _, mm_n_ald _ _, mm_n_ge2 _ _, mm_n_ldI _ _, mm_n_k _ _, mm_n_ge2 _ _, mm_n_ldR _ _, mm_n_gfR _ _ _, mm_n_ldI _ _, mm_n_k _ _, mm_n_i2 _ _, mm_n_ldI _ _, mm_n_i2 _ _, mm_n_ald _ _, mm_n_ldI _ _, mm_n_clS _ _ (mo_X5_rowFits), mm_n_eq1 _ _, mm_n_k _ _, mm_n_rtZ, mm_n_inc _ _ _, mm_n_go _, mm_n_k _ _, mm_n_rtZ, trivial⟩
theorem mo_X5_rowsFit : mm_Mo f_X5_rowsFit := mm_do_mo (mm_alln_mem mn_X5_rowsFit)
set_option maxRecDepth 10000 in
theorem ok_X5_rowsFit {l : Launch} (hl : l.stackTraces = false) : mm_Ok l yX5_rowsFit cX5_rowsFit 4 (some .boolean) 2 44 tb_X5_rowsFit := by
  refine ⟨mm_alln_mem mn_X5_rowsFit, fun p e cells slots s m args below meth c D tc A S ad Tg X hret hname htab hth => mm_allr_mem ?_⟩
  exact ⟨mm_r_aload_n X (show decode cX5_rowsFit 0 = .ok (.aload_n 0, 1) by decide +kernel) rfl,
    mm_r_iload_n X (show decode cX5_rowsFit 1 = .ok (.iload_n 1, 1) by decide +kernel) rfl,
    mm_r_clV X hth (ci := 5) (na := 1) (sn_X5_hasPattern hl) rfl (show decode cX5_rowsFit 2 = .ok (.invokevirtual 53, 3) by decide +kernel) mw_618 mw_644 mw_616 mw_617 mw_53 hd_X5_hasPattern ⟨(Nat.le_of_ble_eq_true rfl), (Nat.le_of_ble_eq_true rfl)⟩,
    mm_r_ne1 X (show decode cX5_rowsFit 5 = .ok (.ifCond .ne 5, 3) by decide +kernel) (by decide),
    mm_r_iconst X (show decode cX5_rowsFit 8 = .ok (.iconst 0, 1) by decide +kernel) rfl,
    mm_r_zret X hret (show decode cX5_rowsFit 9 = .ok (.ireturn, 1) by decide +kernel),
    mm_r_iconst X (show decode cX5_rowsFit 10 = .ok (.iconst 0, 1) by decide +kernel) rfl,
    mm_r_istore_n X (show decode cX5_rowsFit 11 = .ok (.istore_n 3, 1) by decide +kernel) rfl (Nat.le_of_ble_eq_true rfl),
    mm_r_iload_n X (show decode cX5_rowsFit 12 = .ok (.iload_n 3, 1) by decide +kernel) rfl,
    mm_r_aload_n X (show decode cX5_rowsFit 13 = .ok (.aload_n 0, 1) by decide +kernel) rfl,
    mm_r_gfR X (ci := 5) (p := 5) (show mm_kd 5 5 = 2 by decide +kernel) rfl (Nat.le_of_ble_eq_true rfl) (show decode cX5_rowsFit 14 = .ok (.getfield 25, 3) by decide +kernel) mw_355 rfl,
    mm_r_iload_n X (show decode cX5_rowsFit 17 = .ok (.iload_n 1, 1) by decide +kernel) rfl,
    mm_r_iald X (show decode cX5_rowsFit 18 = .ok (.iaload, 1) by decide +kernel),
    mm_r_ge2 X (show decode cX5_rowsFit 19 = .ok (.if_icmp .ge 33, 3) by decide +kernel) (by decide),
    mm_r_iload_n X (show decode cX5_rowsFit 22 = .ok (.iload_n 3, 1) by decide +kernel) rfl,
    mm_r_iconst X (show decode cX5_rowsFit 23 = .ok (.iconst 4, 1) by decide +kernel) rfl,
    mm_r_ge2 X (show decode cX5_rowsFit 24 = .ok (.if_icmp .ge 28, 3) by decide +kernel) (by decide),
    mm_r_aload_n X (show decode cX5_rowsFit 27 = .ok (.aload_n 0, 1) by decide +kernel) rfl,
    mm_r_gfR X (ci := 5) (p := 4) (show mm_kd 5 4 = 2 by decide +kernel) rfl (Nat.le_of_ble_eq_true rfl) (show decode cX5_rowsFit 28 = .ok (.getfield 22, 3) by decide +kernel) mw_354 rfl,
    mm_r_iload_n X (show decode cX5_rowsFit 31 = .ok (.iload_n 1, 1) by decide +kernel) rfl,
    mm_r_iconst X (show decode cX5_rowsFit 32 = .ok (.iconst 4, 1) by decide +kernel) rfl,
    mm_r_imul X (show decode cX5_rowsFit 33 = .ok (.imul, 1) by decide +kernel),
    mm_r_iload_n X (show decode cX5_rowsFit 34 = .ok (.iload_n 3, 1) by decide +kernel) rfl,
    mm_r_iadd X (show decode cX5_rowsFit 35 = .ok (.iadd, 1) by decide +kernel),
    mm_r_iald X (show decode cX5_rowsFit 36 = .ok (.iaload, 1) by decide +kernel),
    mm_r_iload_n X (show decode cX5_rowsFit 37 = .ok (.iload_n 2, 1) by decide +kernel) rfl,
    mm_r_clS X hth (na := 2) (sn_X5_rowFits hl) (show decode cX5_rowsFit 38 = .ok (.invokestatic 86, 3) by decide +kernel) mw_647 mw_645 mw_646 mw_53 hd_X5_rowFits.2 ⟨(Nat.le_of_ble_eq_true rfl), (Nat.le_of_ble_eq_true rfl)⟩,
    mm_r_eq1 X (show decode cX5_rowsFit 41 = .ok (.ifCond .eq 5, 3) by decide +kernel) (by decide),
    mm_r_iconst X (show decode cX5_rowsFit 44 = .ok (.iconst 1, 1) by decide +kernel) rfl,
    mm_r_zret X hret (show decode cX5_rowsFit 45 = .ok (.ireturn, 1) by decide +kernel),
    mm_r_iinc X (show decode cX5_rowsFit 46 = .ok (.iinc 3 1, 3) by decide +kernel) rfl (Nat.le_of_ble_eq_true rfl),
    mm_r_goto X (show decode cX5_rowsFit 49 = .ok (.goto (-37), 3) by decide +kernel) (by decide),
    mm_r_iconst X (show decode cX5_rowsFit 52 = .ok (.iconst 0, 1) by decide +kernel) rfl,
    mm_r_zret X hret (show decode cX5_rowsFit 53 = .ok (.ireturn, 1) by decide +kernel), trivial⟩
theorem sn_X5_rowsFit {l : Launch} (hl : l.stackTraces = false) : mm_Snd l yX5_rowsFit (.code yX5_rowsFit cX5_rowsFit 4 (some .boolean)) 2 44 f_X5_rowsFit := mm_met hl (plainFor_of_name (by decide +kernel)) (ok_X5_rowsFit hl)
/-! Linkcourt$Patterns.placesByRows(IJJ)J -/
noncomputable def tb_X5_placesByRows : List (Nat × mm_I) := [(0, mm_k 1 (.long 0)), (1, mm_stJ 3 6), (3, mm_k 4 (.int 0)), (4, mm_stI 6 8), (6, mm_ldI 8 8), (8, mm_ldR 9 0), (9, mm_gfR 12 5 0), (12, mm_gfI 15 1 8), (15, mm_ge2 62 18), (18, mm_ldJ 19 2), (19, mm_ldJ 21 4), (21, mm_l2 22 (fun a b => a ||| b)), (22, mm_ldI 24 8), (24, mm_clS 27 2 f_X10_has), (27, mm_ne1 56 30), (30, mm_ldR 31 0), (31, mm_ldI 32 1), (32, mm_ldR 33 0), (33, mm_ldI 35 8), (35, mm_ldJ 36 2), (36, mm_ldJ 38 4), (38, mm_clV 41 5 3 f_X5_surroundings), (41, mm_clV 44 5 2 f_X5_rowsFit), (44, mm_eq1 56 47), (47, mm_ldJ 49 6), (49, mm_k 50 (.long 1)), (50, mm_ldI 52 8), (52, mm_ls 53 (fun a b => a <<< (b.toInt64 &&& 63))), (53, mm_l2 54 (fun a b => a ||| b)), (54, mm_stJ 56 6), (56, mm_inc 59 8 1), (59, mm_go 6), (62, mm_ldJ 64 6), (64, mm_rtJ)]
noncomputable def f_X5_placesByRows : mm_F := mm_do (mm_pr tb_X5_placesByRows) 9
theorem mn_X5_placesByRows : mm_alln tb_X5_placesByRows := ⟨mm_n_k _ _, mm_n_stJ _ _, mm_n_k _ _, mm_n_stI _ _, mm_n_ldI _ _, mm_n_ldR _ _, mm_n_gfR _ _ _, mm_n_gfI _ _ _, mm_n_ge2 _ _, mm_n_ldJ _ _, mm_n_ldJ _ _, mm_n_l2 _ _, mm_n_ldI _ _, mm_n_clS _ _ (mo_X10_has), mm_n_ne1 _ _, mm_n_ldR _ _, mm_n_ldI _ _, mm_n_ldR _ _, mm_n_ldI _ _, mm_n_ldJ _ _, mm_n_ldJ _ _, mm_n_clV _ _ _ (mo_X5_surroundings), mm_n_clV _ _ _ (mo_X5_rowsFit), mm_n_eq1 _ _, mm_n_ldJ _ _, mm_n_k _ _, mm_n_ldI _ _, mm_n_ls _ _, mm_n_l2 _ _, mm_n_stJ _ _, mm_n_inc _ _ _, mm_n_go _, mm_n_ldJ _ _, mm_n_rtJ, trivial⟩
theorem mo_X5_placesByRows : mm_Mo f_X5_placesByRows := mm_do_mo (mm_alln_mem mn_X5_placesByRows)
set_option maxRecDepth 10000 in
theorem ok_X5_placesByRows {l : Launch} (hl : l.stackTraces = false) : mm_Ok l yX5_placesByRows cX5_placesByRows 9 (some .long) 4 93 tb_X5_placesByRows := by
  refine ⟨mm_alln_mem mn_X5_placesByRows, fun p e cells slots s m args below meth c D tc A S ad Tg X hret hname htab hth => mm_allr_mem ?_⟩
  exact ⟨mm_r_lconst X (show decode cX5_placesByRows 0 = .ok (.lconst 0, 1) by decide +kernel) rfl,
    mm_r_lstore X (show decode cX5_placesByRows 1 = .ok (.lstore 6, 2) by decide +kernel) (Nat.le_of_ble_eq_true rfl),
    mm_r_iconst X (show decode cX5_placesByRows 3 = .ok (.iconst 0, 1) by decide +kernel) rfl,
    mm_r_istore X (show decode cX5_placesByRows 4 = .ok (.istore 8, 2) by decide +kernel) (Nat.le_of_ble_eq_true rfl),
    mm_r_iload X (show decode cX5_placesByRows 6 = .ok (.iload 8, 2) by decide +kernel),
    mm_r_aload_n X (show decode cX5_placesByRows 8 = .ok (.aload_n 0, 1) by decide +kernel) rfl,
    mm_r_gfR X (ci := 5) (p := 0) (show mm_kd 5 0 = 2 by decide +kernel) rfl (Nat.le_of_ble_eq_true rfl) (show decode cX5_placesByRows 9 = .ok (.getfield 28, 3) by decide +kernel) mw_350 rfl,
    mm_r_gfI X (ci := 1) (p := 8) (show mm_kd 1 8 = 0 by decide +kernel) rfl (Nat.le_of_ble_eq_true rfl) (show decode cX5_placesByRows 12 = .ok (.getfield 62, 3) by decide +kernel) mw_92 rfl,
    mm_r_ge2 X (show decode cX5_placesByRows 15 = .ok (.if_icmp .ge 47, 3) by decide +kernel) (by decide),
    mm_r_lload_n X (show decode cX5_placesByRows 18 = .ok (.lload_n 2, 1) by decide +kernel) rfl,
    mm_r_lload X (show decode cX5_placesByRows 19 = .ok (.lload 4, 2) by decide +kernel),
    mm_r_lor X (show decode cX5_placesByRows 21 = .ok (.lor, 1) by decide +kernel),
    mm_r_iload X (show decode cX5_placesByRows 22 = .ok (.iload 8, 2) by decide +kernel),
    mm_r_clSN X hth (na := 2) (sn_X10_has hl) (show decode cX5_placesByRows 24 = .ok (.invokestatic 67, 3) by decide +kernel) mw_593 (show ("Linkcourt$Patterns", 67, yX10_has) ∈ mm_nest by decide +kernel) mw_592 mw_44 hd_X10_has.2 ⟨(Nat.le_of_ble_eq_true rfl), (Nat.le_of_ble_eq_true rfl)⟩,
    mm_r_ne1 X (show decode cX5_placesByRows 27 = .ok (.ifCond .ne 29, 3) by decide +kernel) (by decide),
    mm_r_aload_n X (show decode cX5_placesByRows 30 = .ok (.aload_n 0, 1) by decide +kernel) rfl,
    mm_r_iload_n X (show decode cX5_placesByRows 31 = .ok (.iload_n 1, 1) by decide +kernel) rfl,
    mm_r_aload_n X (show decode cX5_placesByRows 32 = .ok (.aload_n 0, 1) by decide +kernel) rfl,
    mm_r_iload X (show decode cX5_placesByRows 33 = .ok (.iload 8, 2) by decide +kernel),
    mm_r_lload_n X (show decode cX5_placesByRows 35 = .ok (.lload_n 2, 1) by decide +kernel) rfl,
    mm_r_lload X (show decode cX5_placesByRows 36 = .ok (.lload 4, 2) by decide +kernel),
    mm_r_clV X hth (ci := 5) (na := 3) (sn_X5_surroundings hl) rfl (show decode cX5_placesByRows 38 = .ok (.invokevirtual 71, 3) by decide +kernel) mw_631 mw_628 mw_630 mw_11 mw_53 hd_X5_surroundings ⟨(Nat.le_of_ble_eq_true rfl), (Nat.le_of_ble_eq_true rfl)⟩,
    mm_r_clV X hth (ci := 5) (na := 2) (sn_X5_rowsFit hl) rfl (show decode cX5_placesByRows 41 = .ok (.invokevirtual 75, 3) by decide +kernel) mw_643 mw_640 mw_642 mw_12 mw_53 hd_X5_rowsFit ⟨(Nat.le_of_ble_eq_true rfl), (Nat.le_of_ble_eq_true rfl)⟩,
    mm_r_eq1 X (show decode cX5_placesByRows 44 = .ok (.ifCond .eq 12, 3) by decide +kernel) (by decide),
    mm_r_lload X (show decode cX5_placesByRows 47 = .ok (.lload 6, 2) by decide +kernel),
    mm_r_lconst X (show decode cX5_placesByRows 49 = .ok (.lconst 1, 1) by decide +kernel) rfl,
    mm_r_iload X (show decode cX5_placesByRows 50 = .ok (.iload 8, 2) by decide +kernel),
    mm_r_lshl X (show decode cX5_placesByRows 52 = .ok (.lshl, 1) by decide +kernel),
    mm_r_lor X (show decode cX5_placesByRows 53 = .ok (.lor, 1) by decide +kernel),
    mm_r_lstore X (show decode cX5_placesByRows 54 = .ok (.lstore 6, 2) by decide +kernel) (Nat.le_of_ble_eq_true rfl),
    mm_r_iinc X (show decode cX5_placesByRows 56 = .ok (.iinc 8 1, 3) by decide +kernel) rfl (Nat.le_of_ble_eq_true rfl),
    mm_r_goto X (show decode cX5_placesByRows 59 = .ok (.goto (-53), 3) by decide +kernel) (by decide),
    mm_r_lload X (show decode cX5_placesByRows 62 = .ok (.lload 6, 2) by decide +kernel),
    mm_r_lret X hret (show decode cX5_placesByRows 64 = .ok (.lreturn, 1) by decide +kernel), trivial⟩
theorem sn_X5_placesByRows {l : Launch} (hl : l.stackTraces = false) : mm_Snd l yX5_placesByRows (.code yX5_placesByRows cX5_placesByRows 9 (some .long)) 4 93 f_X5_placesByRows := mm_met hl (plainFor_of_name (by decide +kernel)) (ok_X5_placesByRows hl)
/-! Linkcourt.fits(II)J -/
noncomputable def tb_X10_fits : List (Nat × mm_I) := [(0, mm_ldR 1 0), (1, mm_gfR 4 10 6), (4, mm_ldI 5 1), (5, mm_clV 8 5 1 f_X5_hasPattern), (8, mm_eq1 18 11), (11, mm_ldI 12 2), (12, mm_clS 15 1 f_X10_isPlayer), (15, mm_ne1 29 18), (18, mm_thr 1), (29, mm_ldR 30 0), (30, mm_gfR 33 10 6), (33, mm_ldI 34 1), (34, mm_ldR 35 0), (35, mm_gfR 38 10 1), (38, mm_ldI 39 2), (39, mm_clV 42 6 1 f_X6_stones), (42, mm_ldR 43 0), (43, mm_gfR 46 10 1), (46, mm_k 47 (.int 1)), (47, mm_ldI 48 2), (48, mm_i2 49 (fun a b => a - b)), (49, mm_clV 52 6 1 f_X6_stones), (52, mm_clV 55 5 3 f_X5_placesByRows), (55, mm_rtJ)]
noncomputable def f_X10_fits : mm_F := mm_do (mm_pr tb_X10_fits) 3
theorem mn_X10_fits : mm_alln tb_X10_fits := ⟨mm_n_ldR _ _, mm_n_gfR _ _ _, mm_n_ldI _ _, mm_n_clV _ _ _ (mo_X5_hasPattern), mm_n_eq1 _ _, mm_n_ldI _ _, mm_n_clS _ _ (mo_X10_isPlayer), mm_n_ne1 _ _, mm_n_thr _, mm_n_ldR _ _, mm_n_gfR _ _ _, mm_n_ldI _ _, mm_n_ldR _ _, mm_n_gfR _ _ _, mm_n_ldI _ _, mm_n_clV _ _ _ (mo_X6_stones), mm_n_ldR _ _, mm_n_gfR _ _ _, mm_n_k _ _, mm_n_ldI _ _, mm_n_i2 _ _, mm_n_clV _ _ _ (mo_X6_stones), mm_n_clV _ _ _ (mo_X5_placesByRows), mm_n_rtJ, trivial⟩
theorem mo_X10_fits : mm_Mo f_X10_fits := mm_do_mo (mm_alln_mem mn_X10_fits)
set_option maxRecDepth 10000 in
theorem ok_X10_fits {l : Launch} (hl : l.stackTraces = false) : mm_Ok l yX10_fits cX10_fits 3 (some .long) 6 121 tb_X10_fits := by
  refine ⟨mm_alln_mem mn_X10_fits, fun p e cells slots s m args below meth c D tc A S ad Tg X hret hname htab hth => mm_allr_mem ?_⟩
  exact ⟨mm_r_aload_n X (show decode cX10_fits 0 = .ok (.aload_n 0, 1) by decide +kernel) rfl,
    mm_r_gfR X (ci := 10) (p := 6) (show mm_kd 10 6 = 2 by decide +kernel) rfl (Nat.le_of_ble_eq_true rfl) (show decode cX10_fits 1 = .ok (.getfield 63, 3) by decide +kernel) mw_434 rfl,
    mm_r_iload_n X (show decode cX10_fits 4 = .ok (.iload_n 1, 1) by decide +kernel) rfl,
    mm_r_clV X hth (ci := 5) (na := 1) (sn_X5_hasPattern hl) rfl (show decode cX10_fits 5 = .ok (.invokevirtual 312, 3) by decide +kernel) mw_618 mw_615 mw_616 mw_617 mw_53 hd_X5_hasPattern ⟨(Nat.le_of_ble_eq_true rfl), (Nat.le_of_ble_eq_true rfl)⟩,
    mm_r_eq1 X (show decode cX10_fits 8 = .ok (.ifCond .eq 10, 3) by decide +kernel) (by decide),
    mm_r_iload_n X (show decode cX10_fits 11 = .ok (.iload_n 2, 1) by decide +kernel) rfl,
    mm_r_clS X hth (na := 1) (sn_X10_isPlayer hl) (show decode cX10_fits 12 = .ok (.invokestatic 257, 3) by decide +kernel) mw_621 mw_619 mw_620 mw_44 hd_X10_isPlayer.2 ⟨(Nat.le_of_ble_eq_true rfl), (Nat.le_of_ble_eq_true rfl)⟩,
    mm_r_ne1 X (show decode cX10_fits 15 = .ok (.ifCond .ne 14, 3) by decide +kernel) (by decide),
    mm_r_thrW X htab (E := 1) (ik := 110) (is := 315) (ic := 114) (text := "there is no such pattern or player") (by decide) rfl mm_aw1 mw_569 mw_60 (by decide +kernel) (show decode cX10_fits 18 = .ok (.new 110, 3) by decide +kernel) (show decode cX10_fits 21 = .ok (.dup, 1) by decide +kernel) (show decode cX10_fits 22 = .ok (.ldc_w 315, 3) by decide +kernel) (show decode cX10_fits 25 = .ok (.invokespecial 114, 3) by decide +kernel) (show decode cX10_fits 28 = .ok (.athrow, 1) by decide +kernel) (Nat.le_of_ble_eq_true rfl) (Nat.le_of_ble_eq_true rfl),
    mm_r_aload_n X (show decode cX10_fits 29 = .ok (.aload_n 0, 1) by decide +kernel) rfl,
    mm_r_gfR X (ci := 10) (p := 6) (show mm_kd 10 6 = 2 by decide +kernel) rfl (Nat.le_of_ble_eq_true rfl) (show decode cX10_fits 30 = .ok (.getfield 63, 3) by decide +kernel) mw_434 rfl,
    mm_r_iload_n X (show decode cX10_fits 33 = .ok (.iload_n 1, 1) by decide +kernel) rfl,
    mm_r_aload_n X (show decode cX10_fits 34 = .ok (.aload_n 0, 1) by decide +kernel) rfl,
    mm_r_gfR X (ci := 10) (p := 1) (show mm_kd 10 1 = 2 by decide +kernel) rfl (Nat.le_of_ble_eq_true rfl) (show decode cX10_fits 35 = .ok (.getfield 28, 3) by decide +kernel) mw_429 rfl,
    mm_r_iload_n X (show decode cX10_fits 38 = .ok (.iload_n 2, 1) by decide +kernel) rfl,
    mm_r_clV X hth (ci := 6) (na := 1) (sn_X6_stones hl) rfl (show decode cX10_fits 39 = .ok (.invokevirtual 194, 3) by decide +kernel) mw_601 mw_598 mw_599 mw_600 mw_46 hd_X6_stones ⟨(Nat.le_of_ble_eq_true rfl), (Nat.le_of_ble_eq_true rfl)⟩,
    mm_r_aload_n X (show decode cX10_fits 42 = .ok (.aload_n 0, 1) by decide +kernel) rfl,
    mm_r_gfR X (ci := 10) (p := 1) (show mm_kd 10 1 = 2 by decide +kernel) rfl (Nat.le_of_ble_eq_true rfl) (show decode cX10_fits 43 = .ok (.getfield 28, 3) by decide +kernel) mw_429 rfl,
    mm_r_iconst X (show decode cX10_fits 46 = .ok (.iconst 1, 1) by decide +kernel) rfl,
    mm_r_iload_n X (show decode cX10_fits 47 = .ok (.iload_n 2, 1) by decide +kernel) rfl,
    mm_r_isub X (show decode cX10_fits 48 = .ok (.isub, 1) by decide +kernel),
    mm_r_clV X hth (ci := 6) (na := 1) (sn_X6_stones hl) rfl (show decode cX10_fits 49 = .ok (.invokevirtual 194, 3) by decide +kernel) mw_601 mw_598 mw_599 mw_600 mw_46 hd_X6_stones ⟨(Nat.le_of_ble_eq_true rfl), (Nat.le_of_ble_eq_true rfl)⟩,
    mm_r_clV X hth (ci := 5) (na := 3) (sn_X5_placesByRows hl) rfl (show decode cX10_fits 52 = .ok (.invokevirtual 317, 3) by decide +kernel) mw_626 mw_623 mw_624 mw_625 mw_53 hd_X5_placesByRows ⟨(Nat.le_of_ble_eq_true rfl), (Nat.le_of_ble_eq_true rfl)⟩,
    mm_r_lret X hret (show decode cX10_fits 55 = .ok (.lreturn, 1) by decide +kernel), trivial⟩
theorem sn_X10_fits {l : Launch} (hl : l.stackTraces = false) : mm_Snd l yX10_fits (.code yX10_fits cX10_fits 3 (some .long)) 6 121 f_X10_fits := mm_met hl (plainFor_of_name (by decide +kernel)) (ok_X10_fits hl)
/-! Linkcourt$Patterns.textFitsTurned(IIIJJ)Z -/
noncomputable def tb_X5_textFitsTurned : List (Nat × mm_I) := [(0, mm_k 1 (.int 0)), (1, mm_stI 3 8), (3, mm_ldI 5 8), (5, mm_k 7 (.int 6)), (7, mm_ge2 78 10), (10, mm_ldI 11 1), (11, mm_lt1 26 14), (14, mm_ldI 15 1), (15, mm_ldI 17 8), (17, mm_i2 18 (fun a b => a + b)), (18, mm_ldR 19 0), (19, mm_gfR 22 5 2), (22, mm_aln 23 3), (23, mm_lt2 28 26), (26, mm_k 27 (.int 0)), (27, mm_rtZ), (28, mm_ldR 29 0), (29, mm_gfR 32 5 0), (32, mm_ldI 33 3), (33, mm_ldI 35 8), (35, mm_ldI 36 2), (36, mm_i2 37 (fun a b => a + b)), (37, mm_k 39 (.int 6)), (39, mm_i3 40 (fun a b => a - a / b * b)), (40, mm_clV 43 1 2 f_X1_next), (43, mm_stI 45 9), (45, mm_ldR 46 0), (46, mm_gfR 49 5 2), (49, mm_ldI 50 1), (50, mm_ldI 52 8), (52, mm_i2 53 (fun a b => a + b)), (53, mm_ald 54 3), (54, mm_clS 57 1 f_X5_meaning), (57, mm_ldI 59 9), (59, mm_ldJ 61 4), (61, mm_ldJ 63 6), (63, mm_clS 66 3 f_X5_thing), (66, mm_i2 67 (fun a b => a &&& b)), (67, mm_ne1 72 70), (70, mm_k 71 (.int 0)), (71, mm_rtZ), (72, mm_inc 75 8 1), (75, mm_go 3), (78, mm_k 79 (.int 1)), (79, mm_rtZ)]
noncomputable def f_X5_textFitsTurned : mm_F := mm_do (mm_pr tb_X5_textFitsTurned) 10
theorem mn_X5_textFitsTurned : mm_alln tb_X5_textFitsTurned := ⟨mm_n_k _ _, mm_n_stI _ _, mm_n_ldI _ _, mm_n_k _ _, mm_n_ge2 _ _, mm_n_ldI _ _, mm_n_lt1 _ _, mm_n_ldI _ _, mm_n_ldI _ _, mm_n_i2 _ _, mm_n_ldR _ _, mm_n_gfR _ _ _, mm_n_aln _ _, mm_n_lt2 _ _, mm_n_k _ _, mm_n_rtZ, mm_n_ldR _ _, mm_n_gfR _ _ _, mm_n_ldI _ _, mm_n_ldI _ _, mm_n_ldI _ _, mm_n_i2 _ _, mm_n_k _ _, mm_n_i3 _ _, mm_n_clV _ _ _ (mo_X1_next), mm_n_stI _ _, mm_n_ldR _ _, mm_n_gfR _ _ _, mm_n_ldI _ _, mm_n_ldI _ _, mm_n_i2 _ _, mm_n_ald _ _, mm_n_clS _ _ (mo_X5_meaning), mm_n_ldI _ _, mm_n_ldJ _ _, mm_n_ldJ _ _, mm_n_clS _ _ (mo_X5_thing), mm_n_i2 _ _, mm_n_ne1 _ _, mm_n_k _ _, mm_n_rtZ, mm_n_inc _ _ _, mm_n_go _, mm_n_k _ _, mm_n_rtZ, trivial⟩
theorem mo_X5_textFitsTurned : mm_Mo f_X5_textFitsTurned := mm_do_mo (mm_alln_mem mn_X5_textFitsTurned)
set_option maxRecDepth 10000 in
theorem ok_X5_textFitsTurned {l : Launch} (hl : l.stackTraces = false) : mm_Ok l yX5_textFitsTurned cX5_textFitsTurned 10 (some .boolean) 3 66 tb_X5_textFitsTurned := by
  refine ⟨mm_alln_mem mn_X5_textFitsTurned, fun p e cells slots s m args below meth c D tc A S ad Tg X hret hname htab hth => mm_allr_mem ?_⟩
  exact ⟨mm_r_iconst X (show decode cX5_textFitsTurned 0 = .ok (.iconst 0, 1) by decide +kernel) rfl,
    mm_r_istore X (show decode cX5_textFitsTurned 1 = .ok (.istore 8, 2) by decide +kernel) (Nat.le_of_ble_eq_true rfl),
    mm_r_iload X (show decode cX5_textFitsTurned 3 = .ok (.iload 8, 2) by decide +kernel),
    mm_r_bipush X (show decode cX5_textFitsTurned 5 = .ok (.bipush 6, 2) by decide +kernel) rfl,
    mm_r_ge2 X (show decode cX5_textFitsTurned 7 = .ok (.if_icmp .ge 71, 3) by decide +kernel) (by decide),
    mm_r_iload_n X (show decode cX5_textFitsTurned 10 = .ok (.iload_n 1, 1) by decide +kernel) rfl,
    mm_r_lt1 X (show decode cX5_textFitsTurned 11 = .ok (.ifCond .lt 15, 3) by decide +kernel) (by decide),
    mm_r_iload_n X (show decode cX5_textFitsTurned 14 = .ok (.iload_n 1, 1) by decide +kernel) rfl,
    mm_r_iload X (show decode cX5_textFitsTurned 15 = .ok (.iload 8, 2) by decide +kernel),
    mm_r_iadd X (show decode cX5_textFitsTurned 17 = .ok (.iadd, 1) by decide +kernel),
    mm_r_aload_n X (show decode cX5_textFitsTurned 18 = .ok (.aload_n 0, 1) by decide +kernel) rfl,
    mm_r_gfR X (ci := 5) (p := 2) (show mm_kd 5 2 = 2 by decide +kernel) rfl (Nat.le_of_ble_eq_true rfl) (show decode cX5_textFitsTurned 19 = .ok (.getfield 15, 3) by decide +kernel) mw_352 rfl,
    mm_r_aln X (t := 3) (Nat.le_of_ble_eq_true rfl) (show decode cX5_textFitsTurned 22 = .ok (.arraylength, 1) by decide +kernel),
    mm_r_lt2 X (show decode cX5_textFitsTurned 23 = .ok (.if_icmp .lt 5, 3) by decide +kernel) (by decide),
    mm_r_iconst X (show decode cX5_textFitsTurned 26 = .ok (.iconst 0, 1) by decide +kernel) rfl,
    mm_r_zret X hret (show decode cX5_textFitsTurned 27 = .ok (.ireturn, 1) by decide +kernel),
    mm_r_aload_n X (show decode cX5_textFitsTurned 28 = .ok (.aload_n 0, 1) by decide +kernel) rfl,
    mm_r_gfR X (ci := 5) (p := 0) (show mm_kd 5 0 = 2 by decide +kernel) rfl (Nat.le_of_ble_eq_true rfl) (show decode cX5_textFitsTurned 29 = .ok (.getfield 28, 3) by decide +kernel) mw_350 rfl,
    mm_r_iload_n X (show decode cX5_textFitsTurned 32 = .ok (.iload_n 3, 1) by decide +kernel) rfl,
    mm_r_iload X (show decode cX5_textFitsTurned 33 = .ok (.iload 8, 2) by decide +kernel),
    mm_r_iload_n X (show decode cX5_textFitsTurned 35 = .ok (.iload_n 2, 1) by decide +kernel) rfl,
    mm_r_iadd X (show decode cX5_textFitsTurned 36 = .ok (.iadd, 1) by decide +kernel),
    mm_r_bipush X (show decode cX5_textFitsTurned 37 = .ok (.bipush 6, 2) by decide +kernel) rfl,
    mm_r_irem X (show decode cX5_textFitsTurned 39 = .ok (.irem, 1) by decide +kernel),
    mm_r_clV X hth (ci := 1) (na := 2) (sn_X1_next hl) rfl (show decode cX5_textFitsTurned 40 = .ok (.invokevirtual 79, 3) by decide +kernel) mw_635 mw_632 mw_633 mw_634 mw_45 hd_X1_next ⟨(Nat.le_of_ble_eq_true rfl), (Nat.le_of_ble_eq_true rfl)⟩,
    mm_r_istore X (show decode cX5_textFitsTurned 43 = .ok (.istore 9, 2) by decide +kernel) (Nat.le_of_ble_eq_true rfl),
    mm_r_aload_n X (show decode cX5_textFitsTurned 45 = .ok (.aload_n 0, 1) by decide +kernel) rfl,
    mm_r_gfR X (ci := 5) (p := 2) (show mm_kd 5 2 = 2 by decide +kernel) rfl (Nat.le_of_ble_eq_true rfl) (show decode cX5_textFitsTurned 46 = .ok (.getfield 15, 3) by decide +kernel) mw_352 rfl,
    mm_r_iload_n X (show decode cX5_textFitsTurned 49 = .ok (.iload_n 1, 1) by decide +kernel) rfl,
    mm_r_iload X (show decode cX5_textFitsTurned 50 = .ok (.iload 8, 2) by decide +kernel),
    mm_r_iadd X (show decode cX5_textFitsTurned 52 = .ok (.iadd, 1) by decide +kernel),
    mm_r_cald X (show decode cX5_textFitsTurned 53 = .ok (.caload, 1) by decide +kernel),
    mm_r_clS X hth (na := 1) (sn_X5_meaning hl) (show decode cX5_textFitsTurned 54 = .ok (.invokestatic 36, 3) by decide +kernel) mw_684 mw_682 mw_683 mw_53 hd_X5_meaning.2 ⟨(Nat.le_of_ble_eq_true rfl), (Nat.le_of_ble_eq_true rfl)⟩,
    mm_r_iload X (show decode cX5_textFitsTurned 57 = .ok (.iload 9, 2) by decide +kernel),
    mm_r_lload X (show decode cX5_textFitsTurned 59 = .ok (.lload 4, 2) by decide +kernel),
    mm_r_lload X (show decode cX5_textFitsTurned 61 = .ok (.lload 6, 2) by decide +kernel),
    mm_r_clS X hth (na := 3) (sn_X5_thing hl) (show decode cX5_textFitsTurned 63 = .ok (.invokestatic 83, 3) by decide +kernel) mw_639 mw_637 mw_638 mw_53 hd_X5_thing.2 ⟨(Nat.le_of_ble_eq_true rfl), (Nat.le_of_ble_eq_true rfl)⟩,
    mm_r_iand X (show decode cX5_textFitsTurned 66 = .ok (.iand, 1) by decide +kernel),
    mm_r_ne1 X (show decode cX5_textFitsTurned 67 = .ok (.ifCond .ne 5, 3) by decide +kernel) (by decide),
    mm_r_iconst X (show decode cX5_textFitsTurned 70 = .ok (.iconst 0, 1) by decide +kernel) rfl,
    mm_r_zret X hret (show decode cX5_textFitsTurned 71 = .ok (.ireturn, 1) by decide +kernel),
    mm_r_iinc X (show decode cX5_textFitsTurned 72 = .ok (.iinc 8 1, 3) by decide +kernel) rfl (Nat.le_of_ble_eq_true rfl),
    mm_r_goto X (show decode cX5_textFitsTurned 75 = .ok (.goto (-72), 3) by decide +kernel) (by decide),
    mm_r_iconst X (show decode cX5_textFitsTurned 78 = .ok (.iconst 1, 1) by decide +kernel) rfl,
    mm_r_zret X hret (show decode cX5_textFitsTurned 79 = .ok (.ireturn, 1) by decide +kernel), trivial⟩
theorem sn_X5_textFitsTurned {l : Launch} (hl : l.stackTraces = false) : mm_Snd l yX5_textFitsTurned (.code yX5_textFitsTurned cX5_textFitsTurned 10 (some .boolean)) 3 66 f_X5_textFitsTurned := mm_met hl (plainFor_of_name (by decide +kernel)) (ok_X5_textFitsTurned hl)
/-! Linkcourt$Patterns.textFits(IIJJ)Z -/
noncomputable def tb_X5_textFits : List (Nat × mm_I) := [(0, mm_ldR 1 0), (1, mm_ldI 2 1), (2, mm_clV 5 5 1 f_X5_hasPattern), (5, mm_eq1 17 8), (8, mm_ldR 9 0), (9, mm_gfR 12 5 3), (12, mm_ldI 13 1), (13, mm_ald 14 0), (14, mm_go 18), (17, mm_k 18 (.int 0)), (18, mm_stI 20 7), (20, mm_k 21 (.int 0)), (21, mm_stI 23 8), (23, mm_k 24 (.int 0)), (24, mm_stI 26 9), (26, mm_ldI 28 9), (28, mm_k 29 (.int 4)), (29, mm_ge2 140 32), (32, mm_ldI 34 8), (34, mm_ldI 36 7), (36, mm_ge2 140 39), (39, mm_ldI 41 8), (41, mm_k 43 (.int 6)), (43, mm_i2 44 (fun a b => a + b)), (44, mm_stI 46 10), (46, mm_ldI 48 10), (48, mm_ldI 50 7), (50, mm_ge2 69 53), (53, mm_ldR 54 0), (54, mm_ldI 55 1), (55, mm_ldI 57 10), (57, mm_clV 60 5 2 f_X5_character), (60, mm_k 62 (.int 33)), (62, mm_ne2 69 65), (65, mm_k 66 (.int 1)), (66, mm_go 70), (69, mm_k 70 (.int 0)), (70, mm_stI 72 11), (72, mm_k 73 (.int 0)), (73, mm_stI 75 12), (75, mm_ldI 77 12), (77, mm_ldI 79 11), (79, mm_eq1 86 82), (82, mm_k 83 (.int 1)), (83, mm_go 88), (86, mm_k 88 (.int 6)), (88, mm_ge2 119 91), (91, mm_ldR 92 0), (92, mm_ldI 93 1), (93, mm_k 95 (.int 30)), (95, mm_i2 96 (fun a b => a * b)), (96, mm_ldI 98 8), (98, mm_i2 99 (fun a b => a + b)), (99, mm_ldI 101 12), (101, mm_ldI 102 2), (102, mm_ldJ 103 3), (103, mm_ldJ 105 5), (105, mm_clV 108 5 5 f_X5_textFitsTurned), (108, mm_eq1 113 111), (111, mm_k 112 (.int 1)), (112, mm_rtZ), (113, mm_inc 116 12 1), (116, mm_go 75), (119, mm_ldI 121 10), (121, mm_ldI 123 11), (123, mm_eq1 130 126), (126, mm_k 127 (.int 2)), (127, mm_go 131), (130, mm_k 131 (.int 1)), (131, mm_i2 132 (fun a b => a + b)), (132, mm_stI 134 8), (134, mm_inc 137 9 1), (137, mm_go 26), (140, mm_k 141 (.int 0)), (141, mm_rtZ)]
noncomputable def f_X5_textFits : mm_F := mm_do (mm_pr tb_X5_textFits) 13
theorem mn_X5_textFits : mm_alln tb_X5_textFits := ⟨mm_n_ldR _ _, mm_n_ldI _ _, mm_n_clV _ _ _ (mo_X5_hasPattern), mm_n_eq1 _ _, mm_n_ldR _ _, mm_n_gfR _ _ _, mm_n_ldI _ _, mm_n_ald _ _, mm_n_go _, mm_n_k _ _, mm_n_stI _ _, mm_n_k _ _, mm_n_stI _ _, mm_n_k _ _, mm_n_stI _ _, mm_n_ldI _ _, mm_n_k _ _, mm_n_ge2 _ _, mm_n_ldI _ _, mm_n_ldI _ _, mm_n_ge2 _ _, mm_n_ldI _ _, mm_n_k _ _, mm_n_i2 _ _, mm_n_stI _ _, mm_n_ldI _ _, mm_n_ldI _ _, mm_n_ge2 _ _, mm_n_ldR _ _, mm_n_ldI _ _, mm_n_ldI _ _, mm_n_clV _ _ _ (mo_X5_character), mm_n_k _ _, mm_n_ne2 _ _, mm_n_k _ _, mm_n_go _, mm_n_k _ _, mm_n_stI _ _, mm_n_k _ _, mm_n_stI _ _, mm_n_ldI _ _, mm_n_ldI _ _, mm_n_eq1 _ _, mm_n_k _ _, mm_n_go _, mm_n_k _ _, mm_n_ge2 _ _, mm_n_ldR _ _, mm_n_ldI _ _, mm_n_k _ _, mm_n_i2 _ _, mm_n_ldI _ _, mm_n_i2 _ _, mm_n_ldI _ _, mm_n_ldI _ _, mm_n_ldJ _ _, mm_n_ldJ _ _, mm_n_clV _ _ _ (mo_X5_textFitsTurned), mm_n_eq1 _ _, mm_n_k _ _, mm_n_rtZ, mm_n_inc _ _ _, mm_n_go _, mm_n_ldI _ _, mm_n_ldI _ _, mm_n_eq1 _ _, mm_n_k _ _, mm_n_go _, mm_n_k _ _, mm_n_i2 _ _, mm_n_stI _ _, mm_n_inc _ _ _, mm_n_go _, mm_n_k _ _, mm_n_rtZ, trivial⟩
theorem mo_X5_textFits : mm_Mo f_X5_textFits := mm_do_mo (mm_alln_mem mn_X5_textFits)
set_option maxRecDepth 10000 in
theorem ok_X5_textFits {l : Launch} (hl : l.stackTraces = false) : mm_Ok l yX5_textFits cX5_textFits 13 (some .boolean) 4 95 tb_X5_textFits := by
  refine ⟨mm_alln_mem mn_X5_textFits, fun p e cells slots s m args below meth c D tc A S ad Tg X hret hname htab hth => mm_allr_mem ?_⟩
  exact ⟨mm_r_aload_n X (show decode cX5_textFits 0 = .ok (.aload_n 0, 1) by decide +kernel) rfl,
    mm_r_iload_n X (show decode cX5_textFits 1 = .ok (.iload_n 1, 1) by decide +kernel) rfl,
    mm_r_clV X hth (ci := 5) (na := 1) (sn_X5_hasPattern hl) rfl (show decode cX5_textFits 2 = .ok (.invokevirtual 53, 3) by decide +kernel) mw_618 mw_644 mw_616 mw_617 mw_53 hd_X5_hasPattern ⟨(Nat.le_of_ble_eq_true rfl), (Nat.le_of_ble_eq_true rfl)⟩,
    mm_r_eq1 X (show decode cX5_textFits 5 = .ok (.ifCond .eq 12, 3) by decide +kernel) (by decide),
    mm_r_aload_n X (show decode cX5_textFits 8 = .ok (.aload_n 0, 1) by decide +kernel) rfl,
    mm_r_gfR X (ci := 5) (p := 3) (show mm_kd 5 3 = 2 by decide +kernel) rfl (Nat.le_of_ble_eq_true rfl) (show decode cX5_textFits 9 = .ok (.getfield 18, 3) by decide +kernel) mw_353 rfl,
    mm_r_iload_n X (show decode cX5_textFits 12 = .ok (.iload_n 1, 1) by decide +kernel) rfl,
    mm_r_iald X (show decode cX5_textFits 13 = .ok (.iaload, 1) by decide +kernel),
    mm_r_goto X (show decode cX5_textFits 14 = .ok (.goto 4, 3) by decide +kernel) (by decide),
    mm_r_iconst X (show decode cX5_textFits 17 = .ok (.iconst 0, 1) by decide +kernel) rfl,
    mm_r_istore X (show decode cX5_textFits 18 = .ok (.istore 7, 2) by decide +kernel) (Nat.le_of_ble_eq_true rfl),
    mm_r_iconst X (show decode cX5_textFits 20 = .ok (.iconst 0, 1) by decide +kernel) rfl,
    mm_r_istore X (show decode cX5_textFits 21 = .ok (.istore 8, 2) by decide +kernel) (Nat.le_of_ble_eq_true rfl),
    mm_r_iconst X (show decode cX5_textFits 23 = .ok (.iconst 0, 1) by decide +kernel) rfl,
    mm_r_istore X (show decode cX5_textFits 24 = .ok (.istore 9, 2) by decide +kernel) (Nat.le_of_ble_eq_true rfl),
    mm_r_iload X (show decode cX5_textFits 26 = .ok (.iload 9, 2) by decide +kernel),
    mm_r_iconst X (show decode cX5_textFits 28 = .ok (.iconst 4, 1) by decide +kernel) rfl,
    mm_r_ge2 X (show decode cX5_textFits 29 = .ok (.if_icmp .ge 111, 3) by decide +kernel) (by decide),
    mm_r_iload X (show decode cX5_textFits 32 = .ok (.iload 8, 2) by decide +kernel),
    mm_r_iload X (show decode cX5_textFits 34 = .ok (.iload 7, 2) by decide +kernel),
    mm_r_ge2 X (show decode cX5_textFits 36 = .ok (.if_icmp .ge 104, 3) by decide +kernel) (by decide),
    mm_r_iload X (show decode cX5_textFits 39 = .ok (.iload 8, 2) by decide +kernel),
    mm_r_bipush X (show decode cX5_textFits 41 = .ok (.bipush 6, 2) by decide +kernel) rfl,
    mm_r_iadd X (show decode cX5_textFits 43 = .ok (.iadd, 1) by decide +kernel),
    mm_r_istore X (show decode cX5_textFits 44 = .ok (.istore 10, 2) by decide +kernel) (Nat.le_of_ble_eq_true rfl),
    mm_r_iload X (show decode cX5_textFits 46 = .ok (.iload 10, 2) by decide +kernel),
    mm_r_iload X (show decode cX5_textFits 48 = .ok (.iload 7, 2) by decide +kernel),
    mm_r_ge2 X (show decode cX5_textFits 50 = .ok (.if_icmp .ge 19, 3) by decide +kernel) (by decide),
    mm_r_aload_n X (show decode cX5_textFits 53 = .ok (.aload_n 0, 1) by decide +kernel) rfl,
    mm_r_iload_n X (show decode cX5_textFits 54 = .ok (.iload_n 1, 1) by decide +kernel) rfl,
    mm_r_iload X (show decode cX5_textFits 55 = .ok (.iload 10, 2) by decide +kernel),
    mm_r_clV X hth (ci := 5) (na := 2) (sn_X5_character hl) rfl (show decode cX5_textFits 57 = .ok (.invokevirtual 57, 3) by decide +kernel) mw_1037 mw_1034 mw_1036 mw_38 mw_53 hd_X5_character ⟨(Nat.le_of_ble_eq_true rfl), (Nat.le_of_ble_eq_true rfl)⟩,
    mm_r_bipush X (show decode cX5_textFits 60 = .ok (.bipush 33, 2) by decide +kernel) rfl,
    mm_r_ne2 X (show decode cX5_textFits 62 = .ok (.if_icmp .ne 7, 3) by decide +kernel) (by decide),
    mm_r_iconst X (show decode cX5_textFits 65 = .ok (.iconst 1, 1) by decide +kernel) rfl,
    mm_r_goto X (show decode cX5_textFits 66 = .ok (.goto 4, 3) by decide +kernel) (by decide),
    mm_r_iconst X (show decode cX5_textFits 69 = .ok (.iconst 0, 1) by decide +kernel) rfl,
    mm_r_istore X (show decode cX5_textFits 70 = .ok (.istore 11, 2) by decide +kernel) (Nat.le_of_ble_eq_true rfl),
    mm_r_iconst X (show decode cX5_textFits 72 = .ok (.iconst 0, 1) by decide +kernel) rfl,
    mm_r_istore X (show decode cX5_textFits 73 = .ok (.istore 12, 2) by decide +kernel) (Nat.le_of_ble_eq_true rfl),
    mm_r_iload X (show decode cX5_textFits 75 = .ok (.iload 12, 2) by decide +kernel),
    mm_r_iload X (show decode cX5_textFits 77 = .ok (.iload 11, 2) by decide +kernel),
    mm_r_eq1 X (show decode cX5_textFits 79 = .ok (.ifCond .eq 7, 3) by decide +kernel) (by decide),
    mm_r_iconst X (show decode cX5_textFits 82 = .ok (.iconst 1, 1) by decide +kernel) rfl,
    mm_r_goto X (show decode cX5_textFits 83 = .ok (.goto 5, 3) by decide +kernel) (by decide),
    mm_r_bipush X (show decode cX5_textFits 86 = .ok (.bipush 6, 2) by decide +kernel) rfl,
    mm_r_ge2 X (show decode cX5_textFits 88 = .ok (.if_icmp .ge 31, 3) by decide +kernel) (by decide),
    mm_r_aload_n X (show decode cX5_textFits 91 = .ok (.aload_n 0, 1) by decide +kernel) rfl,
    mm_r_iload_n X (show decode cX5_textFits 92 = .ok (.iload_n 1, 1) by decide +kernel) rfl,
    mm_r_bipush X (show decode cX5_textFits 93 = .ok (.bipush 30, 2) by decide +kernel) rfl,
    mm_r_imul X (show decode cX5_textFits 95 = .ok (.imul, 1) by decide +kernel),
    mm_r_iload X (show decode cX5_textFits 96 = .ok (.iload 8, 2) by decide +kernel),
    mm_r_iadd X (show decode cX5_textFits 98 = .ok (.iadd, 1) by decide +kernel),
    mm_r_iload X (show decode cX5_textFits 99 = .ok (.iload 12, 2) by decide +kernel),
    mm_r_iload_n X (show decode cX5_textFits 101 = .ok (.iload_n 2, 1) by decide +kernel) rfl,
    mm_r_lload_n X (show decode cX5_textFits 102 = .ok (.lload_n 3, 1) by decide +kernel) rfl,
    mm_r_lload X (show decode cX5_textFits 103 = .ok (.lload 5, 2) by decide +kernel),
    mm_r_clV X hth (ci := 5) (na := 5) (sn_X5_textFitsTurned hl) rfl (show decode cX5_textFits 105 = .ok (.invokevirtual 94, 3) by decide +kernel) mw_1140 mw_1137 mw_1139 mw_41 mw_53 hd_X5_textFitsTurned ⟨(Nat.le_of_ble_eq_true rfl), (Nat.le_of_ble_eq_true rfl)⟩,
    mm_r_eq1 X (show decode cX5_textFits 108 = .ok (.ifCond .eq 5, 3) by decide +kernel) (by decide),
    mm_r_iconst X (show decode cX5_textFits 111 = .ok (.iconst 1, 1) by decide +kernel) rfl,
    mm_r_zret X hret (show decode cX5_textFits 112 = .ok (.ireturn, 1) by decide +kernel),
    mm_r_iinc X (show decode cX5_textFits 113 = .ok (.iinc 12 1, 3) by decide +kernel) rfl (Nat.le_of_ble_eq_true rfl),
    mm_r_goto X (show decode cX5_textFits 116 = .ok (.goto (-41), 3) by decide +kernel) (by decide),
    mm_r_iload X (show decode cX5_textFits 119 = .ok (.iload 10, 2) by decide +kernel),
    mm_r_iload X (show decode cX5_textFits 121 = .ok (.iload 11, 2) by decide +kernel),
    mm_r_eq1 X (show decode cX5_textFits 123 = .ok (.ifCond .eq 7, 3) by decide +kernel) (by decide),
    mm_r_iconst X (show decode cX5_textFits 126 = .ok (.iconst 2, 1) by decide +kernel) rfl,
    mm_r_goto X (show decode cX5_textFits 127 = .ok (.goto 4, 3) by decide +kernel) (by decide),
    mm_r_iconst X (show decode cX5_textFits 130 = .ok (.iconst 1, 1) by decide +kernel) rfl,
    mm_r_iadd X (show decode cX5_textFits 131 = .ok (.iadd, 1) by decide +kernel),
    mm_r_istore X (show decode cX5_textFits 132 = .ok (.istore 8, 2) by decide +kernel) (Nat.le_of_ble_eq_true rfl),
    mm_r_iinc X (show decode cX5_textFits 134 = .ok (.iinc 9 1, 3) by decide +kernel) rfl (Nat.le_of_ble_eq_true rfl),
    mm_r_goto X (show decode cX5_textFits 137 = .ok (.goto (-111), 3) by decide +kernel) (by decide),
    mm_r_iconst X (show decode cX5_textFits 140 = .ok (.iconst 0, 1) by decide +kernel) rfl,
    mm_r_zret X hret (show decode cX5_textFits 141 = .ok (.ireturn, 1) by decide +kernel), trivial⟩
theorem sn_X5_textFits {l : Launch} (hl : l.stackTraces = false) : mm_Snd l yX5_textFits (.code yX5_textFits cX5_textFits 13 (some .boolean)) 4 95 f_X5_textFits := mm_met hl (plainFor_of_name (by decide +kernel)) (ok_X5_textFits hl)
/-! Linkcourt$Patterns.placesByText(IJJ)J -/
noncomputable def tb_X5_placesByText : List (Nat × mm_I) := [(0, mm_k 1 (.long 0)), (1, mm_stJ 3 6), (3, mm_k 4 (.int 0)), (4, mm_stI 6 8), (6, mm_ldI 8 8), (8, mm_ldR 9 0), (9, mm_gfR 12 5 0), (12, mm_gfI 15 1 8), (15, mm_ge2 58 18), (18, mm_ldJ 19 2), (19, mm_ldJ 21 4), (21, mm_l2 22 (fun a b => a ||| b)), (22, mm_ldI 24 8), (24, mm_clS 27 2 f_X10_has), (27, mm_ne1 52 30), (30, mm_ldR 31 0), (31, mm_ldI 32 1), (32, mm_ldI 34 8), (34, mm_ldJ 35 2), (35, mm_ldJ 37 4), (37, mm_clV 40 5 4 f_X5_textFits), (40, mm_eq1 52 43), (43, mm_ldJ 45 6), (45, mm_k 46 (.long 1)), (46, mm_ldI 48 8), (48, mm_ls 49 (fun a b => a <<< (b.toInt64 &&& 63))), (49, mm_l2 50 (fun a b => a ||| b)), (50, mm_stJ 52 6), (52, mm_inc 55 8 1), (55, mm_go 6), (58, mm_ldJ 60 6), (60, mm_rtJ)]
noncomputable def f_X5_placesByText : mm_F := mm_do (mm_pr tb_X5_placesByText) 9
theorem mn_X5_placesByText : mm_alln tb_X5_placesByText := ⟨mm_n_k _ _, mm_n_stJ _ _, mm_n_k _ _, mm_n_stI _ _, mm_n_ldI _ _, mm_n_ldR _ _, mm_n_gfR _ _ _, mm_n_gfI _ _ _, mm_n_ge2 _ _, mm_n_ldJ _ _, mm_n_ldJ _ _, mm_n_l2 _ _, mm_n_ldI _ _, mm_n_clS _ _ (mo_X10_has), mm_n_ne1 _ _, mm_n_ldR _ _, mm_n_ldI _ _, mm_n_ldI _ _, mm_n_ldJ _ _, mm_n_ldJ _ _, mm_n_clV _ _ _ (mo_X5_textFits), mm_n_eq1 _ _, mm_n_ldJ _ _, mm_n_k _ _, mm_n_ldI _ _, mm_n_ls _ _, mm_n_l2 _ _, mm_n_stJ _ _, mm_n_inc _ _ _, mm_n_go _, mm_n_ldJ _ _, mm_n_rtJ, trivial⟩
theorem mo_X5_placesByText : mm_Mo f_X5_placesByText := mm_do_mo (mm_alln_mem mn_X5_placesByText)
set_option maxRecDepth 10000 in
theorem ok_X5_placesByText {l : Launch} (hl : l.stackTraces = false) : mm_Ok l yX5_placesByText cX5_placesByText 9 (some .long) 5 127 tb_X5_placesByText := by
  refine ⟨mm_alln_mem mn_X5_placesByText, fun p e cells slots s m args below meth c D tc A S ad Tg X hret hname htab hth => mm_allr_mem ?_⟩
  exact ⟨mm_r_lconst X (show decode cX5_placesByText 0 = .ok (.lconst 0, 1) by decide +kernel) rfl,
    mm_r_lstore X (show decode cX5_placesByText 1 = .ok (.lstore 6, 2) by decide +kernel) (Nat.le_of_ble_eq_true rfl),
    mm_r_iconst X (show decode cX5_placesByText 3 = .ok (.iconst 0, 1) by decide +kernel) rfl,
    mm_r_istore X (show decode cX5_placesByText 4 = .ok (.istore 8, 2) by decide +kernel) (Nat.le_of_ble_eq_true rfl),
    mm_r_iload X (show decode cX5_placesByText 6 = .ok (.iload 8, 2) by decide +kernel),
    mm_r_aload_n X (show decode cX5_placesByText 8 = .ok (.aload_n 0, 1) by decide +kernel) rfl,
    mm_r_gfR X (ci := 5) (p := 0) (show mm_kd 5 0 = 2 by decide +kernel) rfl (Nat.le_of_ble_eq_true rfl) (show decode cX5_placesByText 9 = .ok (.getfield 28, 3) by decide +kernel) mw_350 rfl,
    mm_r_gfI X (ci := 1) (p := 8) (show mm_kd 1 8 = 0 by decide +kernel) rfl (Nat.le_of_ble_eq_true rfl) (show decode cX5_placesByText 12 = .ok (.getfield 62, 3) by decide +kernel) mw_92 rfl,
    mm_r_ge2 X (show decode cX5_placesByText 15 = .ok (.if_icmp .ge 43, 3) by decide +kernel) (by decide),
    mm_r_lload_n X (show decode cX5_placesByText 18 = .ok (.lload_n 2, 1) by decide +kernel) rfl,
    mm_r_lload X (show decode cX5_placesByText 19 = .ok (.lload 4, 2) by decide +kernel),
    mm_r_lor X (show decode cX5_placesByText 21 = .ok (.lor, 1) by decide +kernel),
    mm_r_iload X (show decode cX5_placesByText 22 = .ok (.iload 8, 2) by decide +kernel),
    mm_r_clSN X hth (na := 2) (sn_X10_has hl) (show decode cX5_placesByText 24 = .ok (.invokestatic 67, 3) by decide +kernel) mw_593 (show ("Linkcourt$Patterns", 67, yX10_has) ∈ mm_nest by decide +kernel) mw_592 mw_44 hd_X10_has.2 ⟨(Nat.le_of_ble_eq_true rfl), (Nat.le_of_ble_eq_true rfl)⟩,
    mm_r_ne1 X (show decode cX5_placesByText 27 = .ok (.ifCond .ne 25, 3) by decide +kernel) (by decide),
    mm_r_aload_n X (show decode cX5_placesByText 30 = .ok (.aload_n 0, 1) by decide +kernel) rfl,
    mm_r_iload_n X (show decode cX5_placesByText 31 = .ok (.iload_n 1, 1) by decide +kernel) rfl,
    mm_r_iload X (show decode cX5_placesByText 32 = .ok (.iload 8, 2) by decide +kernel),
    mm_r_lload_n X (show decode cX5_placesByText 34 = .ok (.lload_n 2, 1) by decide +kernel) rfl,
    mm_r_lload X (show decode cX5_placesByText 35 = .ok (.lload 4, 2) by decide +kernel),
    mm_r_clV X hth (ci := 5) (na := 4) (sn_X5_textFits hl) rfl (show decode cX5_placesByText 37 = .ok (.invokevirtual 90, 3) by decide +kernel) mw_1136 mw_1133 mw_1135 mw_40 mw_53 hd_X5_textFits ⟨(Nat.le_of_ble_eq_true rfl), (Nat.le_of_ble_eq_true rfl)⟩,
    mm_r_eq1 X (show decode cX5_placesByText 40 = .ok (.ifCond .eq 12, 3) by decide +kernel) (by decide),
    mm_r_lload X (show decode cX5_placesByText 43 = .ok (.lload 6, 2) by decide +kernel),
    mm_r_lconst X (show decode cX5_placesByText 45 = .ok (.lconst 1, 1) by decide +kernel) rfl,
    mm_r_iload X (show decode cX5_placesByText 46 = .ok (.iload 8, 2) by decide +kernel),
    mm_r_lshl X (show decode cX5_placesByText 48 = .ok (.lshl, 1) by decide +kernel),
    mm_r_lor X (show decode cX5_placesByText 49 = .ok (.lor, 1) by decide +kernel),
    mm_r_lstore X (show decode cX5_placesByText 50 = .ok (.lstore 6, 2) by decide +kernel) (Nat.le_of_ble_eq_true rfl),
    mm_r_iinc X (show decode cX5_placesByText 52 = .ok (.iinc 8 1, 3) by decide +kernel) rfl (Nat.le_of_ble_eq_true rfl),
    mm_r_goto X (show decode cX5_placesByText 55 = .ok (.goto (-49), 3) by decide +kernel) (by decide),
    mm_r_lload X (show decode cX5_placesByText 58 = .ok (.lload 6, 2) by decide +kernel),
    mm_r_lret X hret (show decode cX5_placesByText 60 = .ok (.lreturn, 1) by decide +kernel), trivial⟩
theorem sn_X5_placesByText {l : Launch} (hl : l.stackTraces = false) : mm_Snd l yX5_placesByText (.code yX5_placesByText cX5_placesByText 9 (some .long)) 5 127 f_X5_placesByText := mm_met hl (plainFor_of_name (by decide +kernel)) (ok_X5_placesByText hl)
