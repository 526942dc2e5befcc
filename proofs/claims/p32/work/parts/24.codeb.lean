/-! codes: by program (wip/p32/gen/gencode.py) -/
/-! Linkcourt$BestPlay.deadOf(JJI)J -/
noncomputable def tb_X0_deadOf : List (Nat × mm_I) := [(0, mm_ldR 1 0), (1, mm_ldJ 2 1), (2, mm_ldJ 3 3), (3, mm_ldI 5 5), (5, mm_clV 8 0 3 f_X0_take), (8, mm_k 9 (.int 0)), (9, mm_stI 11 6), (11, mm_ldR 12 0), (12, mm_gfR 15 0 1), (15, mm_clV 18 2 0 f_X2_full), (18, mm_stI 20 7), (20, mm_k 21 (.int 0)), (21, mm_stI 23 8), (23, mm_ldI 25 8), (25, mm_ldI 27 7), (27, mm_gt2 118 30), (30, mm_ldI 32 8), (32, mm_k 35 (.int 512)), (35, mm_ge2 118 38), (38, mm_k 39 (.int 0)), (39, mm_stI 41 9), (41, mm_ldI 43 9), (43, mm_ldR 44 0), (44, mm_gfR 47 0 1), (47, mm_gfI 50 2 2), (50, mm_ge2 112 53), (53, mm_ldI 55 6), (55, mm_il 56 (fun a => a.toInt64)), (56, mm_ldI 58 9), (58, mm_clS 61 2 f_X10_has), (61, mm_ne1 106 64), (64, mm_ldI 66 8), (66, mm_il 67 (fun a => a.toInt64)), (67, mm_ldI 69 9), (69, mm_clS 72 2 f_X10_has), (72, mm_ne1 106 75), (75, mm_ldR 76 0), (76, mm_k 77 (.int 0)), (77, mm_ldI 79 8), (79, mm_clV 82 0 2 f_X0_joins), (82, mm_ldR 83 0), (83, mm_k 84 (.int 0)), (84, mm_ldI 86 8), (86, mm_k 87 (.int 1)), (87, mm_ldI 89 9), (89, mm_i2 90 (fun a b => a <<< (b &&& 31))), (90, mm_i2 91 (fun a b => a ||| b)), (91, mm_clV 94 0 2 f_X0_joins), (94, mm_eq2 106 97), (97, mm_ldI 99 6), (99, mm_k 100 (.int 1)), (100, mm_ldI 102 9), (102, mm_i2 103 (fun a b => a <<< (b &&& 31))), (103, mm_i2 104 (fun a b => a ||| b)), (104, mm_stI 106 6), (106, mm_inc 109 9 1), (109, mm_go 41), (112, mm_inc 115 8 1), (115, mm_go 23), (118, mm_ldR 119 0), (119, mm_gfR 122 0 1), (122, mm_ldI 124 7), (124, mm_ldI 126 6), (126, mm_k 127 (.int (-1))), (127, mm_i2 128 (fun a b => a ^^^ b)), (128, mm_i2 129 (fun a b => a &&& b)), (129, mm_clV 132 2 1 f_X2_spread), (132, mm_rtJ)]
noncomputable def f_X0_deadOf : mm_F := mm_do (mm_pr tb_X0_deadOf) 10
theorem mn_X0_deadOf : mm_alln tb_X0_deadOf := ⟨mm_n_ldR _ _, mm_n_ldJ _ _, mm_n_ldJ _ _, mm_n_ldI _ _, mm_n_clV _ _ _ (mo_X0_take), mm_n_k _ _, mm_n_stI _ _, mm_n_ldR _ _, mm_n_gfR _ _ _, mm_n_clV _ _ _ (mo_X2_full), mm_n_stI _ _, mm_n_k _ _, mm_n_stI _ _, mm_n_ldI _ _, mm_n_ldI _ _, mm_n_gt2 _ _, mm_n_ldI _ _, mm_n_k _ _, mm_n_ge2 _ _, mm_n_k _ _, mm_n_stI _ _, mm_n_ldI _ _, mm_n_ldR _ _, mm_n_gfR _ _ _, mm_n_gfI _ _ _, mm_n_ge2 _ _, mm_n_ldI _ _, mm_n_il _ _, mm_n_ldI _ _, mm_n_clS _ _ (mo_X10_has), mm_n_ne1 _ _, mm_n_ldI _ _, mm_n_il _ _, mm_n_ldI _ _, mm_n_clS _ _ (mo_X10_has), mm_n_ne1 _ _, mm_n_ldR _ _, mm_n_k _ _, mm_n_ldI _ _, mm_n_clV _ _ _ (mo_X0_joins), mm_n_ldR _ _, mm_n_k _ _, mm_n_ldI _ _, mm_n_k _ _, mm_n_ldI _ _, mm_n_i2 _ _, mm_n_i2 _ _, mm_n_clV _ _ _ (mo_X0_joins), mm_n_eq2 _ _, mm_n_ldI _ _, mm_n_k _ _, mm_n_ldI _ _, mm_n_i2 _ _, mm_n_i2 _ _, mm_n_stI _ _, mm_n_inc _ _ _, mm_n_go _, mm_n_inc _ _ _, mm_n_go _, mm_n_ldR _ _, mm_n_gfR _ _ _, mm_n_ldI _ _, mm_n_ldI _ _, mm_n_k _ _, mm_n_i2 _ _, mm_n_i2 _ _, mm_n_clV _ _ _ (mo_X2_spread), mm_n_rtJ, trivial⟩
theorem mo_X0_deadOf : mm_Mo f_X0_deadOf := mm_do_mo (mm_alln_mem mn_X0_deadOf)
set_option maxRecDepth 10000 in
theorem ok_X0_deadOf {l : Launch} (hl : l.stackTraces = false) : mm_Ok l yX0_deadOf cX0_deadOf 10 (some .long) 6 148 tb_X0_deadOf := by
  refine ⟨mm_alln_mem mn_X0_deadOf, fun p e cells slots s m args below meth c D tc A S ad Tg X hret hname htab hth => mm_allr_mem ?_⟩
  exact ⟨mm_r_aload_n X (show decode cX0_deadOf 0 = .ok (.aload_n 0, 1) by decide +kernel) rfl,
    mm_r_lload_n X (show decode cX0_deadOf 1 = .ok (.lload_n 1, 1) by decide +kernel) rfl,
    mm_r_lload_n X (show decode cX0_deadOf 2 = .ok (.lload_n 3, 1) by decide +kernel) rfl,
    mm_r_iload X (show decode cX0_deadOf 3 = .ok (.iload 5, 2) by decide +kernel),
    mm_r_clV X hth (ci := 0) (na := 3) (sn_X0_take hl) rfl (show decode cX0_deadOf 5 = .ok (.invokevirtual 33, 3) by decide +kernel) mw_798 mw_795 mw_797 mw_14 mw_48 hd_X0_take ⟨(Nat.le_of_ble_eq_true rfl), (Nat.le_of_ble_eq_true rfl)⟩,
    mm_r_iconst X (show decode cX0_deadOf 8 = .ok (.iconst 0, 1) by decide +kernel) rfl,
    mm_r_istore X (show decode cX0_deadOf 9 = .ok (.istore 6, 2) by decide +kernel) (Nat.le_of_ble_eq_true rfl),
    mm_r_aload_n X (show decode cX0_deadOf 11 = .ok (.aload_n 0, 1) by decide +kernel) rfl,
    mm_r_gfR X (ci := 0) (p := 1) (show mm_kd 0 1 = 2 by decide +kernel) rfl (Nat.le_of_ble_eq_true rfl) (show decode cX0_deadOf 12 = .ok (.getfield 12, 3) by decide +kernel) mw_263 rfl,
    mm_r_clV X hth (ci := 2) (na := 0) (sn_X2_full hl) rfl (show decode cX0_deadOf 15 = .ok (.invokevirtual 65, 3) by decide +kernel) mw_832 mw_829 mw_830 mw_831 mw_49 hd_X2_full ⟨(Nat.le_of_ble_eq_true rfl), (Nat.le_of_ble_eq_true rfl)⟩,
    mm_r_istore X (show decode cX0_deadOf 18 = .ok (.istore 7, 2) by decide +kernel) (Nat.le_of_ble_eq_true rfl),
    mm_r_iconst X (show decode cX0_deadOf 20 = .ok (.iconst 0, 1) by decide +kernel) rfl,
    mm_r_istore X (show decode cX0_deadOf 21 = .ok (.istore 8, 2) by decide +kernel) (Nat.le_of_ble_eq_true rfl),
    mm_r_iload X (show decode cX0_deadOf 23 = .ok (.iload 8, 2) by decide +kernel),
    mm_r_iload X (show decode cX0_deadOf 25 = .ok (.iload 7, 2) by decide +kernel),
    mm_r_gt2 X (show decode cX0_deadOf 27 = .ok (.if_icmp .gt 91, 3) by decide +kernel) (by decide),
    mm_r_iload X (show decode cX0_deadOf 30 = .ok (.iload 8, 2) by decide +kernel),
    mm_r_sipush X (show decode cX0_deadOf 32 = .ok (.sipush 512, 3) by decide +kernel) rfl,
    mm_r_ge2 X (show decode cX0_deadOf 35 = .ok (.if_icmp .ge 83, 3) by decide +kernel) (by decide),
    mm_r_iconst X (show decode cX0_deadOf 38 = .ok (.iconst 0, 1) by decide +kernel) rfl,
    mm_r_istore X (show decode cX0_deadOf 39 = .ok (.istore 9, 2) by decide +kernel) (Nat.le_of_ble_eq_true rfl),
    mm_r_iload X (show decode cX0_deadOf 41 = .ok (.iload 9, 2) by decide +kernel),
    mm_r_aload_n X (show decode cX0_deadOf 43 = .ok (.aload_n 0, 1) by decide +kernel) rfl,
    mm_r_gfR X (ci := 0) (p := 1) (show mm_kd 0 1 = 2 by decide +kernel) rfl (Nat.le_of_ble_eq_true rfl) (show decode cX0_deadOf 44 = .ok (.getfield 12, 3) by decide +kernel) mw_263 rfl,
    mm_r_gfI X (ci := 2) (p := 2) (show mm_kd 2 2 = 0 by decide +kernel) rfl (Nat.le_of_ble_eq_true rfl) (show decode cX0_deadOf 47 = .ok (.getfield 55, 3) by decide +kernel) mw_254 rfl,
    mm_r_ge2 X (show decode cX0_deadOf 50 = .ok (.if_icmp .ge 62, 3) by decide +kernel) (by decide),
    mm_r_iload X (show decode cX0_deadOf 53 = .ok (.iload 6, 2) by decide +kernel),
    mm_r_i2l X (show decode cX0_deadOf 55 = .ok (.i2l, 1) by decide +kernel),
    mm_r_iload X (show decode cX0_deadOf 56 = .ok (.iload 9, 2) by decide +kernel),
    mm_r_clSN X hth (na := 2) (sn_X10_has hl) (show decode cX0_deadOf 58 = .ok (.invokestatic 68, 3) by decide +kernel) mw_593 (show ("Linkcourt$BestPlay", 68, yX10_has) ∈ mm_nest by decide +kernel) mw_592 mw_44 hd_X10_has.2 ⟨(Nat.le_of_ble_eq_true rfl), (Nat.le_of_ble_eq_true rfl)⟩,
    mm_r_ne1 X (show decode cX0_deadOf 61 = .ok (.ifCond .ne 45, 3) by decide +kernel) (by decide),
    mm_r_iload X (show decode cX0_deadOf 64 = .ok (.iload 8, 2) by decide +kernel),
    mm_r_i2l X (show decode cX0_deadOf 66 = .ok (.i2l, 1) by decide +kernel),
    mm_r_iload X (show decode cX0_deadOf 67 = .ok (.iload 9, 2) by decide +kernel),
    mm_r_clSN X hth (na := 2) (sn_X10_has hl) (show decode cX0_deadOf 69 = .ok (.invokestatic 68, 3) by decide +kernel) mw_593 (show ("Linkcourt$BestPlay", 68, yX10_has) ∈ mm_nest by decide +kernel) mw_592 mw_44 hd_X10_has.2 ⟨(Nat.le_of_ble_eq_true rfl), (Nat.le_of_ble_eq_true rfl)⟩,
    mm_r_ne1 X (show decode cX0_deadOf 72 = .ok (.ifCond .ne 34, 3) by decide +kernel) (by decide),
    mm_r_aload_n X (show decode cX0_deadOf 75 = .ok (.aload_n 0, 1) by decide +kernel) rfl,
    mm_r_iconst X (show decode cX0_deadOf 76 = .ok (.iconst 0, 1) by decide +kernel) rfl,
    mm_r_iload X (show decode cX0_deadOf 77 = .ok (.iload 8, 2) by decide +kernel),
    mm_r_clV X hth (ci := 0) (na := 2) (sn_X0_joins hl) rfl (show decode cX0_deadOf 79 = .ok (.invokevirtual 72, 3) by decide +kernel) mw_815 mw_812 mw_814 mw_16 mw_48 hd_X0_joins ⟨(Nat.le_of_ble_eq_true rfl), (Nat.le_of_ble_eq_true rfl)⟩,
    mm_r_aload_n X (show decode cX0_deadOf 82 = .ok (.aload_n 0, 1) by decide +kernel) rfl,
    mm_r_iconst X (show decode cX0_deadOf 83 = .ok (.iconst 0, 1) by decide +kernel) rfl,
    mm_r_iload X (show decode cX0_deadOf 84 = .ok (.iload 8, 2) by decide +kernel),
    mm_r_iconst X (show decode cX0_deadOf 86 = .ok (.iconst 1, 1) by decide +kernel) rfl,
    mm_r_iload X (show decode cX0_deadOf 87 = .ok (.iload 9, 2) by decide +kernel),
    mm_r_ishl X (show decode cX0_deadOf 89 = .ok (.ishl, 1) by decide +kernel),
    mm_r_ior X (show decode cX0_deadOf 90 = .ok (.ior, 1) by decide +kernel),
    mm_r_clV X hth (ci := 0) (na := 2) (sn_X0_joins hl) rfl (show decode cX0_deadOf 91 = .ok (.invokevirtual 72, 3) by decide +kernel) mw_815 mw_812 mw_814 mw_16 mw_48 hd_X0_joins ⟨(Nat.le_of_ble_eq_true rfl), (Nat.le_of_ble_eq_true rfl)⟩,
    mm_r_eq2 X (show decode cX0_deadOf 94 = .ok (.if_icmp .eq 12, 3) by decide +kernel) (by decide),
    mm_r_iload X (show decode cX0_deadOf 97 = .ok (.iload 6, 2) by decide +kernel),
    mm_r_iconst X (show decode cX0_deadOf 99 = .ok (.iconst 1, 1) by decide +kernel) rfl,
    mm_r_iload X (show decode cX0_deadOf 100 = .ok (.iload 9, 2) by decide +kernel),
    mm_r_ishl X (show decode cX0_deadOf 102 = .ok (.ishl, 1) by decide +kernel),
    mm_r_ior X (show decode cX0_deadOf 103 = .ok (.ior, 1) by decide +kernel),
    mm_r_istore X (show decode cX0_deadOf 104 = .ok (.istore 6, 2) by decide +kernel) (Nat.le_of_ble_eq_true rfl),
    mm_r_iinc X (show decode cX0_deadOf 106 = .ok (.iinc 9 1, 3) by decide +kernel) rfl (Nat.le_of_ble_eq_true rfl),
    mm_r_goto X (show decode cX0_deadOf 109 = .ok (.goto (-68), 3) by decide +kernel) (by decide),
    mm_r_iinc X (show decode cX0_deadOf 112 = .ok (.iinc 8 1, 3) by decide +kernel) rfl (Nat.le_of_ble_eq_true rfl),
    mm_r_goto X (show decode cX0_deadOf 115 = .ok (.goto (-92), 3) by decide +kernel) (by decide),
    mm_r_aload_n X (show decode cX0_deadOf 118 = .ok (.aload_n 0, 1) by decide +kernel) rfl,
    mm_r_gfR X (ci := 0) (p := 1) (show mm_kd 0 1 = 2 by decide +kernel) rfl (Nat.le_of_ble_eq_true rfl) (show decode cX0_deadOf 119 = .ok (.getfield 12, 3) by decide +kernel) mw_263 rfl,
    mm_r_iload X (show decode cX0_deadOf 122 = .ok (.iload 7, 2) by decide +kernel),
    mm_r_iload X (show decode cX0_deadOf 124 = .ok (.iload 6, 2) by decide +kernel),
    mm_r_iconst X (show decode cX0_deadOf 126 = .ok (.iconst (-1), 1) by decide +kernel) rfl,
    mm_r_ixor X (show decode cX0_deadOf 127 = .ok (.ixor, 1) by decide +kernel),
    mm_r_iand X (show decode cX0_deadOf 128 = .ok (.iand, 1) by decide +kernel),
    mm_r_clV X hth (ci := 2) (na := 1) (sn_X2_spread hl) rfl (show decode cX0_deadOf 129 = .ok (.invokevirtual 61, 3) by decide +kernel) mw_819 mw_816 mw_817 mw_818 mw_49 hd_X2_spread ⟨(Nat.le_of_ble_eq_true rfl), (Nat.le_of_ble_eq_true rfl)⟩,
    mm_r_lret X hret (show decode cX0_deadOf 132 = .ok (.lreturn, 1) by decide +kernel), trivial⟩
theorem sn_X0_deadOf {l : Launch} (hl : l.stackTraces = false) : mm_Snd l yX0_deadOf (.code yX0_deadOf cX0_deadOf 10 (some .long)) 6 148 f_X0_deadOf := mm_met hl (plainFor_of_name (by decide +kernel)) (ok_X0_deadOf hl)
/-! Linkcourt.dead()J -/
noncomputable def tb_X10_dead : List (Nat × mm_I) := [(0, mm_ldR 1 0), (1, mm_clV 4 10 0 f_X10_needFewGaps), (4, mm_ldR 5 0), (5, mm_gfR 8 10 2), (8, mm_ldR 9 0), (9, mm_gfR 12 10 1), (12, mm_gfJ 15 6 4), (15, mm_ldR 16 0), (16, mm_gfR 19 10 1), (19, mm_gfJ 22 6 5), (22, mm_ldR 23 0), (23, mm_gfR 26 10 1), (26, mm_clV 29 6 0 f_X6_mover), (29, mm_clV 32 0 3 f_X0_deadOf), (32, mm_rtJ)]
noncomputable def f_X10_dead : mm_F := mm_do (mm_pr tb_X10_dead) 1
theorem mn_X10_dead : mm_alln tb_X10_dead := ⟨mm_n_ldR _ _, mm_n_clV _ _ _ (mo_X10_needFewGaps), mm_n_ldR _ _, mm_n_gfR _ _ _, mm_n_ldR _ _, mm_n_gfR _ _ _, mm_n_gfJ _ _ _, mm_n_ldR _ _, mm_n_gfR _ _ _, mm_n_gfJ _ _ _, mm_n_ldR _ _, mm_n_gfR _ _ _, mm_n_clV _ _ _ (mo_X6_mover), mm_n_clV _ _ _ (mo_X0_deadOf), mm_n_rtJ, trivial⟩
theorem mo_X10_dead : mm_Mo f_X10_dead := mm_do_mo (mm_alln_mem mn_X10_dead)
set_option maxRecDepth 10000 in
theorem ok_X10_dead {l : Launch} (hl : l.stackTraces = false) : mm_Ok l yX10_dead cX10_dead 1 (some .long) 7 177 tb_X10_dead := by
  refine ⟨mm_alln_mem mn_X10_dead, fun p e cells slots s m args below meth c D tc A S ad Tg X hret hname htab hth => mm_allr_mem ?_⟩
  exact ⟨mm_r_aload_n X (show decode cX10_dead 0 = .ok (.aload_n 0, 1) by decide +kernel) rfl,
    mm_r_clV X hth (ci := 10) (na := 0) (sn_X10_needFewGaps hl) rfl (show decode cX10_dead 1 = .ok (.invokevirtual 214, 3) by decide +kernel) mw_789 mw_786 mw_788 mw_13 mw_44 hd_X10_needFewGaps ⟨(Nat.le_of_ble_eq_true rfl), (Nat.le_of_ble_eq_true rfl)⟩,
    mm_r_aload_n X (show decode cX10_dead 4 = .ok (.aload_n 0, 1) by decide +kernel) rfl,
    mm_r_gfR X (ci := 10) (p := 2) (show mm_kd 10 2 = 2 by decide +kernel) rfl (Nat.le_of_ble_eq_true rfl) (show decode cX10_dead 5 = .ok (.getfield 35, 3) by decide +kernel) mw_430 rfl,
    mm_r_aload_n X (show decode cX10_dead 8 = .ok (.aload_n 0, 1) by decide +kernel) rfl,
    mm_r_gfR X (ci := 10) (p := 1) (show mm_kd 10 1 = 2 by decide +kernel) rfl (Nat.le_of_ble_eq_true rfl) (show decode cX10_dead 9 = .ok (.getfield 28, 3) by decide +kernel) mw_429 rfl,
    mm_r_gfJ X (ci := 6) (p := 4) (show mm_kd 6 4 = 1 by decide +kernel) rfl (Nat.le_of_ble_eq_true rfl) (show decode cX10_dead 12 = .ok (.getfield 169, 3) by decide +kernel) mw_175 rfl,
    mm_r_aload_n X (show decode cX10_dead 15 = .ok (.aload_n 0, 1) by decide +kernel) rfl,
    mm_r_gfR X (ci := 10) (p := 1) (show mm_kd 10 1 = 2 by decide +kernel) rfl (Nat.le_of_ble_eq_true rfl) (show decode cX10_dead 16 = .ok (.getfield 28, 3) by decide +kernel) mw_429 rfl,
    mm_r_gfJ X (ci := 6) (p := 5) (show mm_kd 6 5 = 1 by decide +kernel) rfl (Nat.le_of_ble_eq_true rfl) (show decode cX10_dead 19 = .ok (.getfield 176, 3) by decide +kernel) mw_177 rfl,
    mm_r_aload_n X (show decode cX10_dead 22 = .ok (.aload_n 0, 1) by decide +kernel) rfl,
    mm_r_gfR X (ci := 10) (p := 1) (show mm_kd 10 1 = 2 by decide +kernel) rfl (Nat.le_of_ble_eq_true rfl) (show decode cX10_dead 23 = .ok (.getfield 28, 3) by decide +kernel) mw_429 rfl,
    mm_r_clV X hth (ci := 6) (na := 0) (sn_X6_mover hl) rfl (show decode cX10_dead 26 = .ok (.invokevirtual 134, 3) by decide +kernel) mw_479 mw_476 mw_477 mw_478 mw_46 hd_X6_mover ⟨(Nat.le_of_ble_eq_true rfl), (Nat.le_of_ble_eq_true rfl)⟩,
    mm_r_clV X hth (ci := 0) (na := 3) (sn_X0_deadOf hl) rfl (show decode cX10_dead 29 = .ok (.invokevirtual 228, 3) by decide +kernel) mw_1115 mw_1112 mw_1113 mw_1114 mw_48 hd_X0_deadOf ⟨(Nat.le_of_ble_eq_true rfl), (Nat.le_of_ble_eq_true rfl)⟩,
    mm_r_lret X hret (show decode cX10_dead 32 = .ok (.lreturn, 1) by decide +kernel), trivial⟩
theorem sn_X10_dead {l : Launch} (hl : l.stackTraces = false) : mm_Snd l yX10_dead (.code yX10_dead cX10_dead 1 (some .long)) 7 177 f_X10_dead := mm_met hl (plainFor_of_name (by decide +kernel)) (ok_X10_dead hl)
/-! Linkcourt$Board.hasEnd(I)Z -/
noncomputable def tb_X1_hasEnd : List (Nat × mm_I) := [(0, mm_ldR 1 0), (1, mm_ldI 2 1), (2, mm_clV 5 1 1 f_X1_hasCell), (5, mm_ne1 25 8), (8, mm_ldI 9 1), (9, mm_k 11 (.int 100)), (11, mm_lt2 29 14), (14, mm_ldI 15 1), (15, mm_k 17 (.int 100)), (17, mm_ldR 18 0), (18, mm_gfI 21 1 9), (21, mm_i2 22 (fun a b => a + b)), (22, mm_ge2 29 25), (25, mm_k 26 (.int 1)), (26, mm_go 30), (29, mm_k 30 (.int 0)), (30, mm_rtZ)]
noncomputable def f_X1_hasEnd : mm_F := mm_do (mm_pr tb_X1_hasEnd) 2
theorem mn_X1_hasEnd : mm_alln tb_X1_hasEnd := ⟨mm_n_ldR _ _, mm_n_ldI _ _, mm_n_clV _ _ _ (mo_X1_hasCell), mm_n_ne1 _ _, mm_n_ldI _ _, mm_n_k _ _, mm_n_lt2 _ _, mm_n_ldI _ _, mm_n_k _ _, mm_n_ldR _ _, mm_n_gfI _ _ _, mm_n_i2 _ _, mm_n_ge2 _ _, mm_n_k _ _, mm_n_go _, mm_n_k _ _, mm_n_rtZ, trivial⟩
theorem mo_X1_hasEnd : mm_Mo f_X1_hasEnd := mm_do_mo (mm_alln_mem mn_X1_hasEnd)
set_option maxRecDepth 10000 in
theorem ok_X1_hasEnd {l : Launch} (hl : l.stackTraces = false) : mm_Ok l yX1_hasEnd cX1_hasEnd 2 (some .boolean) 2 41 tb_X1_hasEnd := by
  refine ⟨mm_alln_mem mn_X1_hasEnd, fun p e cells slots s m args below meth c D tc A S ad Tg X hret hname htab hth => mm_allr_mem ?_⟩
  exact ⟨mm_r_aload_n X (show decode cX1_hasEnd 0 = .ok (.aload_n 0, 1) by decide +kernel) rfl,
    mm_r_iload_n X (show decode cX1_hasEnd 1 = .ok (.iload_n 1, 1) by decide +kernel) rfl,
    mm_r_clV X hth (ci := 1) (na := 1) (sn_X1_hasCell hl) rfl (show decode cX1_hasEnd 2 = .ok (.invokevirtual 81, 3) by decide +kernel) mw_568 mw_636 mw_566 mw_567 mw_45 hd_X1_hasCell ⟨(Nat.le_of_ble_eq_true rfl), (Nat.le_of_ble_eq_true rfl)⟩,
    mm_r_ne1 X (show decode cX1_hasEnd 5 = .ok (.ifCond .ne 20, 3) by decide +kernel) (by decide),
    mm_r_iload_n X (show decode cX1_hasEnd 8 = .ok (.iload_n 1, 1) by decide +kernel) rfl,
    mm_r_bipush X (show decode cX1_hasEnd 9 = .ok (.bipush 100, 2) by decide +kernel) rfl,
    mm_r_lt2 X (show decode cX1_hasEnd 11 = .ok (.if_icmp .lt 18, 3) by decide +kernel) (by decide),
    mm_r_iload_n X (show decode cX1_hasEnd 14 = .ok (.iload_n 1, 1) by decide +kernel) rfl,
    mm_r_bipush X (show decode cX1_hasEnd 15 = .ok (.bipush 100, 2) by decide +kernel) rfl,
    mm_r_aload_n X (show decode cX1_hasEnd 17 = .ok (.aload_n 0, 1) by decide +kernel) rfl,
    mm_r_gfI X (ci := 1) (p := 9) (show mm_kd 1 9 = 0 by decide +kernel) rfl (Nat.le_of_ble_eq_true rfl) (show decode cX1_hasEnd 18 = .ok (.getfield 38, 3) by decide +kernel) mw_93 rfl,
    mm_r_iadd X (show decode cX1_hasEnd 21 = .ok (.iadd, 1) by decide +kernel),
    mm_r_ge2 X (show decode cX1_hasEnd 22 = .ok (.if_icmp .ge 7, 3) by decide +kernel) (by decide),
    mm_r_iconst X (show decode cX1_hasEnd 25 = .ok (.iconst 1, 1) by decide +kernel) rfl,
    mm_r_goto X (show decode cX1_hasEnd 26 = .ok (.goto 4, 3) by decide +kernel) (by decide),
    mm_r_iconst X (show decode cX1_hasEnd 29 = .ok (.iconst 0, 1) by decide +kernel) rfl,
    mm_r_zret X hret (show decode cX1_hasEnd 30 = .ok (.ireturn, 1) by decide +kernel), trivial⟩
theorem sn_X1_hasEnd {l : Launch} (hl : l.stackTraces = false) : mm_Snd l yX1_hasEnd (.code yX1_hasEnd cX1_hasEnd 2 (some .boolean)) 2 41 f_X1_hasEnd := mm_met hl (plainFor_of_name (by decide +kernel)) (ok_X1_hasEnd hl)
/-! Linkcourt.isEndOf(II)Z -/
noncomputable def tb_X10_isEndOf : List (Nat × mm_I) := [(0, mm_ldI 1 2), (1, mm_k 3 (.int 100)), (3, mm_ge2 21 6), (6, mm_ldR 7 0), (7, mm_gfR 10 10 1), (10, mm_ldI 11 1), (11, mm_clV 14 6 1 f_X6_stones), (14, mm_ldI 15 2), (15, mm_clS 18 2 f_X10_has), (18, mm_eq1 25 21), (21, mm_k 22 (.int 1)), (22, mm_go 26), (25, mm_k 26 (.int 0)), (26, mm_rtZ)]
noncomputable def f_X10_isEndOf : mm_F := mm_do (mm_pr tb_X10_isEndOf) 3
theorem mn_X10_isEndOf : mm_alln tb_X10_isEndOf := ⟨mm_n_ldI _ _, mm_n_k _ _, mm_n_ge2 _ _, mm_n_ldR _ _, mm_n_gfR _ _ _, mm_n_ldI _ _, mm_n_clV _ _ _ (mo_X6_stones), mm_n_ldI _ _, mm_n_clS _ _ (mo_X10_has), mm_n_eq1 _ _, mm_n_k _ _, mm_n_go _, mm_n_k _ _, mm_n_rtZ, trivial⟩
theorem mo_X10_isEndOf : mm_Mo f_X10_isEndOf := mm_do_mo (mm_alln_mem mn_X10_isEndOf)
set_option maxRecDepth 10000 in
theorem ok_X10_isEndOf {l : Launch} (hl : l.stackTraces = false) : mm_Ok l yX10_isEndOf cX10_isEndOf 3 (some .boolean) 2 42 tb_X10_isEndOf := by
  refine ⟨mm_alln_mem mn_X10_isEndOf, fun p e cells slots s m args below meth c D tc A S ad Tg X hret hname htab hth => mm_allr_mem ?_⟩
  exact ⟨mm_r_iload_n X (show decode cX10_isEndOf 0 = .ok (.iload_n 2, 1) by decide +kernel) rfl,
    mm_r_bipush X (show decode cX10_isEndOf 1 = .ok (.bipush 100, 2) by decide +kernel) rfl,
    mm_r_ge2 X (show decode cX10_isEndOf 3 = .ok (.if_icmp .ge 18, 3) by decide +kernel) (by decide),
    mm_r_aload_n X (show decode cX10_isEndOf 6 = .ok (.aload_n 0, 1) by decide +kernel) rfl,
    mm_r_gfR X (ci := 10) (p := 1) (show mm_kd 10 1 = 2 by decide +kernel) rfl (Nat.le_of_ble_eq_true rfl) (show decode cX10_isEndOf 7 = .ok (.getfield 28, 3) by decide +kernel) mw_429 rfl,
    mm_r_iload_n X (show decode cX10_isEndOf 10 = .ok (.iload_n 1, 1) by decide +kernel) rfl,
    mm_r_clV X hth (ci := 6) (na := 1) (sn_X6_stones hl) rfl (show decode cX10_isEndOf 11 = .ok (.invokevirtual 194, 3) by decide +kernel) mw_601 mw_598 mw_599 mw_600 mw_46 hd_X6_stones ⟨(Nat.le_of_ble_eq_true rfl), (Nat.le_of_ble_eq_true rfl)⟩,
    mm_r_iload_n X (show decode cX10_isEndOf 14 = .ok (.iload_n 2, 1) by decide +kernel) rfl,
    mm_r_clS X hth (na := 2) (sn_X10_has hl) (show decode cX10_isEndOf 15 = .ok (.invokestatic 119, 3) by decide +kernel) mw_593 mw_727 mw_592 mw_44 hd_X10_has.2 ⟨(Nat.le_of_ble_eq_true rfl), (Nat.le_of_ble_eq_true rfl)⟩,
    mm_r_eq1 X (show decode cX10_isEndOf 18 = .ok (.ifCond .eq 7, 3) by decide +kernel) (by decide),
    mm_r_iconst X (show decode cX10_isEndOf 21 = .ok (.iconst 1, 1) by decide +kernel) rfl,
    mm_r_goto X (show decode cX10_isEndOf 22 = .ok (.goto 4, 3) by decide +kernel) (by decide),
    mm_r_iconst X (show decode cX10_isEndOf 25 = .ok (.iconst 0, 1) by decide +kernel) rfl,
    mm_r_zret X hret (show decode cX10_isEndOf 26 = .ok (.ireturn, 1) by decide +kernel), trivial⟩
theorem sn_X10_isEndOf {l : Launch} (hl : l.stackTraces = false) : mm_Snd l yX10_isEndOf (.code yX10_isEndOf cX10_isEndOf 3 (some .boolean)) 2 42 f_X10_isEndOf := mm_met hl (plainFor_of_name (by decide +kernel)) (ok_X10_isEndOf hl)
/-! Linkcourt.needLink(III)V -/
noncomputable def tb_X10_needLink : List (Nat × mm_I) := [(0, mm_ldI 1 1), (1, mm_clS 4 1 f_X10_isPlayer), (4, mm_eq1 29 7), (7, mm_ldR 8 0), (8, mm_gfR 11 10 0), (11, mm_ldI 12 2), (12, mm_clV 15 1 1 f_X1_hasEnd), (15, mm_eq1 29 18), (18, mm_ldR 19 0), (19, mm_gfR 22 10 0), (22, mm_ldI 23 3), (23, mm_clV 26 1 1 f_X1_hasEnd), (26, mm_ne1 40 29), (29, mm_thr 1), (40, mm_ldI 41 2), (41, mm_ldI 42 3), (42, mm_eq2 63 45), (45, mm_ldR 46 0), (46, mm_ldI 47 1), (47, mm_ldI 48 2), (48, mm_clV 51 10 2 f_X10_isEndOf), (51, mm_eq1 63 54), (54, mm_ldR 55 0), (55, mm_ldI 56 1), (56, mm_ldI 57 3), (57, mm_clV 60 10 2 f_X10_isEndOf), (60, mm_ne1 74 63), (63, mm_thr 2), (74, mm_ldR 75 0), (75, mm_clV 78 10 0 f_X10_needFewGaps), (78, mm_rtV)]
noncomputable def f_X10_needLink : mm_F := mm_do (mm_pr tb_X10_needLink) 4
theorem mn_X10_needLink : mm_alln tb_X10_needLink := ⟨mm_n_ldI _ _, mm_n_clS _ _ (mo_X10_isPlayer), mm_n_eq1 _ _, mm_n_ldR _ _, mm_n_gfR _ _ _, mm_n_ldI _ _, mm_n_clV _ _ _ (mo_X1_hasEnd), mm_n_eq1 _ _, mm_n_ldR _ _, mm_n_gfR _ _ _, mm_n_ldI _ _, mm_n_clV _ _ _ (mo_X1_hasEnd), mm_n_ne1 _ _, mm_n_thr _, mm_n_ldI _ _, mm_n_ldI _ _, mm_n_eq2 _ _, mm_n_ldR _ _, mm_n_ldI _ _, mm_n_ldI _ _, mm_n_clV _ _ _ (mo_X10_isEndOf), mm_n_eq1 _ _, mm_n_ldR _ _, mm_n_ldI _ _, mm_n_ldI _ _, mm_n_clV _ _ _ (mo_X10_isEndOf), mm_n_ne1 _ _, mm_n_thr _, mm_n_ldR _ _, mm_n_clV _ _ _ (mo_X10_needFewGaps), mm_n_rtV, trivial⟩
theorem mo_X10_needLink : mm_Mo f_X10_needLink := mm_do_mo (mm_alln_mem mn_X10_needLink)
set_option maxRecDepth 10000 in
theorem ok_X10_needLink {l : Launch} (hl : l.stackTraces = false) : mm_Ok l yX10_needLink cX10_needLink 4 none 7 110 tb_X10_needLink := by
  refine ⟨mm_alln_mem mn_X10_needLink, fun p e cells slots s m args below meth c D tc A S ad Tg X hret hname htab hth => mm_allr_mem ?_⟩
  exact ⟨mm_r_iload_n X (show decode cX10_needLink 0 = .ok (.iload_n 1, 1) by decide +kernel) rfl,
    mm_r_clS X hth (na := 1) (sn_X10_isPlayer hl) (show decode cX10_needLink 1 = .ok (.invokestatic 257, 3) by decide +kernel) mw_621 mw_619 mw_620 mw_44 hd_X10_isPlayer.2 ⟨(Nat.le_of_ble_eq_true rfl), (Nat.le_of_ble_eq_true rfl)⟩,
    mm_r_eq1 X (show decode cX10_needLink 4 = .ok (.ifCond .eq 25, 3) by decide +kernel) (by decide),
    mm_r_aload_n X (show decode cX10_needLink 7 = .ok (.aload_n 0, 1) by decide +kernel) rfl,
    mm_r_gfR X (ci := 10) (p := 0) (show mm_kd 10 0 = 2 by decide +kernel) rfl (Nat.le_of_ble_eq_true rfl) (show decode cX10_needLink 8 = .ok (.getfield 24, 3) by decide +kernel) mw_428 rfl,
    mm_r_iload_n X (show decode cX10_needLink 11 = .ok (.iload_n 2, 1) by decide +kernel) rfl,
    mm_r_clV X hth (ci := 1) (na := 1) (sn_X1_hasEnd hl) rfl (show decode cX10_needLink 12 = .ok (.invokevirtual 366, 3) by decide +kernel) mw_863 mw_860 mw_861 mw_862 mw_45 hd_X1_hasEnd ⟨(Nat.le_of_ble_eq_true rfl), (Nat.le_of_ble_eq_true rfl)⟩,
    mm_r_eq1 X (show decode cX10_needLink 15 = .ok (.ifCond .eq 14, 3) by decide +kernel) (by decide),
    mm_r_aload_n X (show decode cX10_needLink 18 = .ok (.aload_n 0, 1) by decide +kernel) rfl,
    mm_r_gfR X (ci := 10) (p := 0) (show mm_kd 10 0 = 2 by decide +kernel) rfl (Nat.le_of_ble_eq_true rfl) (show decode cX10_needLink 19 = .ok (.getfield 24, 3) by decide +kernel) mw_428 rfl,
    mm_r_iload_n X (show decode cX10_needLink 22 = .ok (.iload_n 3, 1) by decide +kernel) rfl,
    mm_r_clV X hth (ci := 1) (na := 1) (sn_X1_hasEnd hl) rfl (show decode cX10_needLink 23 = .ok (.invokevirtual 366, 3) by decide +kernel) mw_863 mw_860 mw_861 mw_862 mw_45 hd_X1_hasEnd ⟨(Nat.le_of_ble_eq_true rfl), (Nat.le_of_ble_eq_true rfl)⟩,
    mm_r_ne1 X (show decode cX10_needLink 26 = .ok (.ifCond .ne 14, 3) by decide +kernel) (by decide),
    mm_r_thrW X htab (E := 1) (ik := 110) (is := 369) (ic := 114) (text := "there is no such player, cell or side") (by decide) rfl mm_aw1 mw_569 mw_60 (by decide +kernel) (show decode cX10_needLink 29 = .ok (.new 110, 3) by decide +kernel) (show decode cX10_needLink 32 = .ok (.dup, 1) by decide +kernel) (show decode cX10_needLink 33 = .ok (.ldc_w 369, 3) by decide +kernel) (show decode cX10_needLink 36 = .ok (.invokespecial 114, 3) by decide +kernel) (show decode cX10_needLink 39 = .ok (.athrow, 1) by decide +kernel) (Nat.le_of_ble_eq_true rfl) (Nat.le_of_ble_eq_true rfl),
    mm_r_iload_n X (show decode cX10_needLink 40 = .ok (.iload_n 2, 1) by decide +kernel) rfl,
    mm_r_iload_n X (show decode cX10_needLink 41 = .ok (.iload_n 3, 1) by decide +kernel) rfl,
    mm_r_eq2 X (show decode cX10_needLink 42 = .ok (.if_icmp .eq 21, 3) by decide +kernel) (by decide),
    mm_r_aload_n X (show decode cX10_needLink 45 = .ok (.aload_n 0, 1) by decide +kernel) rfl,
    mm_r_iload_n X (show decode cX10_needLink 46 = .ok (.iload_n 1, 1) by decide +kernel) rfl,
    mm_r_iload_n X (show decode cX10_needLink 47 = .ok (.iload_n 2, 1) by decide +kernel) rfl,
    mm_r_clV X hth (ci := 10) (na := 2) (sn_X10_isEndOf hl) rfl (show decode cX10_needLink 48 = .ok (.invokevirtual 371, 3) by decide +kernel) mw_868 mw_865 mw_867 mw_20 mw_44 hd_X10_isEndOf ⟨(Nat.le_of_ble_eq_true rfl), (Nat.le_of_ble_eq_true rfl)⟩,
    mm_r_eq1 X (show decode cX10_needLink 51 = .ok (.ifCond .eq 12, 3) by decide +kernel) (by decide),
    mm_r_aload_n X (show decode cX10_needLink 54 = .ok (.aload_n 0, 1) by decide +kernel) rfl,
    mm_r_iload_n X (show decode cX10_needLink 55 = .ok (.iload_n 1, 1) by decide +kernel) rfl,
    mm_r_iload_n X (show decode cX10_needLink 56 = .ok (.iload_n 3, 1) by decide +kernel) rfl,
    mm_r_clV X hth (ci := 10) (na := 2) (sn_X10_isEndOf hl) rfl (show decode cX10_needLink 57 = .ok (.invokevirtual 371, 3) by decide +kernel) mw_868 mw_865 mw_867 mw_20 mw_44 hd_X10_isEndOf ⟨(Nat.le_of_ble_eq_true rfl), (Nat.le_of_ble_eq_true rfl)⟩,
    mm_r_ne1 X (show decode cX10_needLink 60 = .ok (.ifCond .ne 14, 3) by decide +kernel) (by decide),
    mm_r_thrW X htab (E := 2) (ik := 85) (is := 375) (ic := 89) (text := "these are no two ends of that player") (by decide) rfl mm_aw2 mw_494 mw_59 (by decide +kernel) (show decode cX10_needLink 63 = .ok (.new 85, 3) by decide +kernel) (show decode cX10_needLink 66 = .ok (.dup, 1) by decide +kernel) (show decode cX10_needLink 67 = .ok (.ldc_w 375, 3) by decide +kernel) (show decode cX10_needLink 70 = .ok (.invokespecial 89, 3) by decide +kernel) (show decode cX10_needLink 73 = .ok (.athrow, 1) by decide +kernel) (Nat.le_of_ble_eq_true rfl) (Nat.le_of_ble_eq_true rfl),
    mm_r_aload_n X (show decode cX10_needLink 74 = .ok (.aload_n 0, 1) by decide +kernel) rfl,
    mm_r_clV X hth (ci := 10) (na := 0) (sn_X10_needFewGaps hl) rfl (show decode cX10_needLink 75 = .ok (.invokevirtual 214, 3) by decide +kernel) mw_789 mw_786 mw_788 mw_13 mw_44 hd_X10_needFewGaps ⟨(Nat.le_of_ble_eq_true rfl), (Nat.le_of_ble_eq_true rfl)⟩,
    mm_r_vret X hret (show decode cX10_needLink 78 = .ok (.return_, 1) by decide +kernel), trivial⟩
theorem sn_X10_needLink {l : Launch} (hl : l.stackTraces = false) : mm_Snd l yX10_needLink (.code yX10_needLink cX10_needLink 4 none) 7 110 f_X10_needLink := mm_met hl (plainFor_of_name (by decide +kernel)) (ok_X10_needLink hl)
/-! Linkcourt$Links.cellsOf(I)J -/
noncomputable def tb_X4_cellsOf : List (Nat × mm_I) := [(0, mm_ldI 1 1), (1, mm_k 3 (.int 100)), (3, mm_lt2 20 6), (6, mm_ldR 7 0), (7, mm_gfR 10 4 0), (10, mm_ldI 11 1), (11, mm_k 13 (.int 100)), (13, mm_i2 14 (fun a b => a - b)), (14, mm_clV 17 1 1 f_X1_side), (17, mm_go 23), (20, mm_k 21 (.long 1)), (21, mm_ldI 22 1), (22, mm_ls 23 (fun a b => a <<< (b.toInt64 &&& 63))), (23, mm_rtJ)]
noncomputable def f_X4_cellsOf : mm_F := mm_do (mm_pr tb_X4_cellsOf) 2
theorem mn_X4_cellsOf : mm_alln tb_X4_cellsOf := ⟨mm_n_ldI _ _, mm_n_k _ _, mm_n_lt2 _ _, mm_n_ldR _ _, mm_n_gfR _ _ _, mm_n_ldI _ _, mm_n_k _ _, mm_n_i2 _ _, mm_n_clV _ _ _ (mo_X1_side), mm_n_go _, mm_n_k _ _, mm_n_ldI _ _, mm_n_ls _ _, mm_n_rtJ, trivial⟩
theorem mo_X4_cellsOf : mm_Mo f_X4_cellsOf := mm_do_mo (mm_alln_mem mn_X4_cellsOf)
set_option maxRecDepth 10000 in
theorem ok_X4_cellsOf {l : Launch} (hl : l.stackTraces = false) : mm_Ok l yX4_cellsOf cX4_cellsOf 2 (some .long) 2 41 tb_X4_cellsOf := by
  refine ⟨mm_alln_mem mn_X4_cellsOf, fun p e cells slots s m args below meth c D tc A S ad Tg X hret hname htab hth => mm_allr_mem ?_⟩
  exact ⟨mm_r_iload_n X (show decode cX4_cellsOf 0 = .ok (.iload_n 1, 1) by decide +kernel) rfl,
    mm_r_bipush X (show decode cX4_cellsOf 1 = .ok (.bipush 100, 2) by decide +kernel) rfl,
    mm_r_lt2 X (show decode cX4_cellsOf 3 = .ok (.if_icmp .lt 17, 3) by decide +kernel) (by decide),
    mm_r_aload_n X (show decode cX4_cellsOf 6 = .ok (.aload_n 0, 1) by decide +kernel) rfl,
    mm_r_gfR X (ci := 4) (p := 0) (show mm_kd 4 0 = 2 by decide +kernel) rfl (Nat.le_of_ble_eq_true rfl) (show decode cX4_cellsOf 7 = .ok (.getfield 25, 3) by decide +kernel) mw_296 rfl,
    mm_r_iload_n X (show decode cX4_cellsOf 10 = .ok (.iload_n 1, 1) by decide +kernel) rfl,
    mm_r_bipush X (show decode cX4_cellsOf 11 = .ok (.bipush 100, 2) by decide +kernel) rfl,
    mm_r_isub X (show decode cX4_cellsOf 13 = .ok (.isub, 1) by decide +kernel),
    mm_r_clV X hth (ci := 1) (na := 1) (sn_X1_side hl) rfl (show decode cX4_cellsOf 14 = .ok (.invokevirtual 107, 3) by decide +kernel) mw_222 mw_890 mw_220 mw_221 mw_45 hd_X1_side ⟨(Nat.le_of_ble_eq_true rfl), (Nat.le_of_ble_eq_true rfl)⟩,
    mm_r_goto X (show decode cX4_cellsOf 17 = .ok (.goto 6, 3) by decide +kernel) (by decide),
    mm_r_lconst X (show decode cX4_cellsOf 20 = .ok (.lconst 1, 1) by decide +kernel) rfl,
    mm_r_iload_n X (show decode cX4_cellsOf 21 = .ok (.iload_n 1, 1) by decide +kernel) rfl,
    mm_r_lshl X (show decode cX4_cellsOf 22 = .ok (.lshl, 1) by decide +kernel),
    mm_r_lret X hret (show decode cX4_cellsOf 23 = .ok (.lreturn, 1) by decide +kernel), trivial⟩
theorem sn_X4_cellsOf {l : Launch} (hl : l.stackTraces = false) : mm_Snd l yX4_cellsOf (.code yX4_cellsOf cX4_cellsOf 2 (some .long)) 2 41 f_X4_cellsOf := mm_met hl (plainFor_of_name (by decide +kernel)) (ok_X4_cellsOf hl)
/-! Linkcourt$Links.ties(I)Z -/
noncomputable def tb_X4_ties : List (Nat × mm_I) := [(0, mm_ldI 1 1), (1, mm_lt1 13 4), (4, mm_ldI 5 1), (5, mm_ldR 6 0), (6, mm_gfR 9 4 2), (9, mm_aln 10 2), (10, mm_lt2 15 13), (13, mm_k 14 (.int 0)), (14, mm_rtZ), (15, mm_ldR 16 0), (16, mm_gfR 19 4 2), (19, mm_ldI 20 1), (20, mm_ald 21 2), (21, mm_ne1 92 24), (24, mm_ldR 25 0), (25, mm_gfJ 28 4 4), (28, mm_ldR 29 0), (29, mm_gfR 32 4 1), (32, mm_ldI 33 1), (33, mm_clV 36 2 1 f_X2_spread), (36, mm_l2 37 (fun a b => a ||| b)), (37, mm_stJ 38 2), (38, mm_ldR 39 0), (39, mm_gfR 42 4 0), (42, mm_ldR 43 0), (43, mm_ldR 44 0), (44, mm_gfI 47 4 5), (47, mm_clV 50 4 1 f_X4_cellsOf), (50, mm_ldJ 51 2), (51, mm_clV 54 1 2 f_X1_reach), (54, mm_ldR 55 0), (55, mm_ldR 56 0), (56, mm_gfI 59 4 6), (59, mm_clV 62 4 1 f_X4_cellsOf), (62, mm_l2 63 (fun a b => a &&& b)), (63, mm_k 64 (.long 0)), (64, mm_cmp 65), (65, mm_eq1 72 68), (68, mm_k 69 (.int 1)), (69, mm_go 73), (72, mm_k 73 (.int 0)), (73, mm_stI 75 4), (75, mm_ldR 76 0), (76, mm_gfR 79 4 2), (79, mm_ldI 80 1), (80, mm_ldI 82 4), (82, mm_eq1 89 85), (85, mm_k 86 (.int 2)), (86, mm_go 90), (89, mm_k 90 (.int 1)), (90, mm_i1 91 (fun a => a.toInt8.toInt32)), (91, mm_ast 92 2 (fun v => v.toInt8.toInt32)), (92, mm_ldR 93 0), (93, mm_gfR 96 4 2), (96, mm_ldI 97 1), (97, mm_ald 98 2), (98, mm_k 99 (.int 2)), (99, mm_ne2 106 102), (102, mm_k 103 (.int 1)), (103, mm_go 107), (106, mm_k 107 (.int 0)), (107, mm_rtZ)]
noncomputable def f_X4_ties : mm_F := mm_do (mm_pr tb_X4_ties) 5
theorem mn_X4_ties : mm_alln tb_X4_ties := ⟨mm_n_ldI _ _, mm_n_lt1 _ _, mm_n_ldI _ _, mm_n_ldR _ _, mm_n_gfR _ _ _, mm_n_aln _ _, mm_n_lt2 _ _, mm_n_k _ _, mm_n_rtZ, mm_n_ldR _ _, mm_n_gfR _ _ _, mm_n_ldI _ _, mm_n_ald _ _, mm_n_ne1 _ _, mm_n_ldR _ _, mm_n_gfJ _ _ _, mm_n_ldR _ _, mm_n_gfR _ _ _, mm_n_ldI _ _, mm_n_clV _ _ _ (mo_X2_spread), mm_n_l2 _ _, mm_n_stJ _ _, mm_n_ldR _ _, mm_n_gfR _ _ _, mm_n_ldR _ _, mm_n_ldR _ _, mm_n_gfI _ _ _, mm_n_clV _ _ _ (mo_X4_cellsOf), mm_n_ldJ _ _, mm_n_clV _ _ _ (mo_X1_reach), mm_n_ldR _ _, mm_n_ldR _ _, mm_n_gfI _ _ _, mm_n_clV _ _ _ (mo_X4_cellsOf), mm_n_l2 _ _, mm_n_k _ _, mm_n_cmp _, mm_n_eq1 _ _, mm_n_k _ _, mm_n_go _, mm_n_k _ _, mm_n_stI _ _, mm_n_ldR _ _, mm_n_gfR _ _ _, mm_n_ldI _ _, mm_n_ldI _ _, mm_n_eq1 _ _, mm_n_k _ _, mm_n_go _, mm_n_k _ _, mm_n_i1 _ _, mm_n_ast _ _ _, mm_n_ldR _ _, mm_n_gfR _ _ _, mm_n_ldI _ _, mm_n_ald _ _, mm_n_k _ _, mm_n_ne2 _ _, mm_n_k _ _, mm_n_go _, mm_n_k _ _, mm_n_rtZ, trivial⟩
theorem mo_X4_ties : mm_Mo f_X4_ties := mm_do_mo (mm_alln_mem mn_X4_ties)
set_option maxRecDepth 10000 in
theorem ok_X4_ties {l : Launch} (hl : l.stackTraces = false) : mm_Ok l yX4_ties cX4_ties 5 (some .boolean) 3 73 tb_X4_ties := by
  refine ⟨mm_alln_mem mn_X4_ties, fun p e cells slots s m args below meth c D tc A S ad Tg X hret hname htab hth => mm_allr_mem ?_⟩
  exact ⟨mm_r_iload_n X (show decode cX4_ties 0 = .ok (.iload_n 1, 1) by decide +kernel) rfl,
    mm_r_lt1 X (show decode cX4_ties 1 = .ok (.ifCond .lt 12, 3) by decide +kernel) (by decide),
    mm_r_iload_n X (show decode cX4_ties 4 = .ok (.iload_n 1, 1) by decide +kernel) rfl,
    mm_r_aload_n X (show decode cX4_ties 5 = .ok (.aload_n 0, 1) by decide +kernel) rfl,
    mm_r_gfR X (ci := 4) (p := 2) (show mm_kd 4 2 = 2 by decide +kernel) rfl (Nat.le_of_ble_eq_true rfl) (show decode cX4_ties 6 = .ok (.getfield 18, 3) by decide +kernel) mw_298 rfl,
    mm_r_aln X (t := 2) (Nat.le_of_ble_eq_true rfl) (show decode cX4_ties 9 = .ok (.arraylength, 1) by decide +kernel),
    mm_r_lt2 X (show decode cX4_ties 10 = .ok (.if_icmp .lt 5, 3) by decide +kernel) (by decide),
    mm_r_iconst X (show decode cX4_ties 13 = .ok (.iconst 0, 1) by decide +kernel) rfl,
    mm_r_zret X hret (show decode cX4_ties 14 = .ok (.ireturn, 1) by decide +kernel),
    mm_r_aload_n X (show decode cX4_ties 15 = .ok (.aload_n 0, 1) by decide +kernel) rfl,
    mm_r_gfR X (ci := 4) (p := 2) (show mm_kd 4 2 = 2 by decide +kernel) rfl (Nat.le_of_ble_eq_true rfl) (show decode cX4_ties 16 = .ok (.getfield 18, 3) by decide +kernel) mw_298 rfl,
    mm_r_iload_n X (show decode cX4_ties 19 = .ok (.iload_n 1, 1) by decide +kernel) rfl,
    mm_r_bald X (show decode cX4_ties 20 = .ok (.baload, 1) by decide +kernel),
    mm_r_ne1 X (show decode cX4_ties 21 = .ok (.ifCond .ne 71, 3) by decide +kernel) (by decide),
    mm_r_aload_n X (show decode cX4_ties 24 = .ok (.aload_n 0, 1) by decide +kernel) rfl,
    mm_r_gfJ X (ci := 4) (p := 4) (show mm_kd 4 4 = 1 by decide +kernel) rfl (Nat.le_of_ble_eq_true rfl) (show decode cX4_ties 25 = .ok (.getfield 29, 3) by decide +kernel) mw_300 rfl,
    mm_r_aload_n X (show decode cX4_ties 28 = .ok (.aload_n 0, 1) by decide +kernel) rfl,
    mm_r_gfR X (ci := 4) (p := 1) (show mm_kd 4 1 = 2 by decide +kernel) rfl (Nat.le_of_ble_eq_true rfl) (show decode cX4_ties 29 = .ok (.getfield 12, 3) by decide +kernel) mw_297 rfl,
    mm_r_iload_n X (show decode cX4_ties 32 = .ok (.iload_n 1, 1) by decide +kernel) rfl,
    mm_r_clV X hth (ci := 2) (na := 1) (sn_X2_spread hl) rfl (show decode cX4_ties 33 = .ok (.invokevirtual 69, 3) by decide +kernel) mw_819 mw_885 mw_817 mw_818 mw_49 hd_X2_spread ⟨(Nat.le_of_ble_eq_true rfl), (Nat.le_of_ble_eq_true rfl)⟩,
    mm_r_lor X (show decode cX4_ties 36 = .ok (.lor, 1) by decide +kernel),
    mm_r_lstore_n X (show decode cX4_ties 37 = .ok (.lstore_n 2, 1) by decide +kernel) rfl (Nat.le_of_ble_eq_true rfl),
    mm_r_aload_n X (show decode cX4_ties 38 = .ok (.aload_n 0, 1) by decide +kernel) rfl,
    mm_r_gfR X (ci := 4) (p := 0) (show mm_kd 4 0 = 2 by decide +kernel) rfl (Nat.le_of_ble_eq_true rfl) (show decode cX4_ties 39 = .ok (.getfield 25, 3) by decide +kernel) mw_296 rfl,
    mm_r_aload_n X (show decode cX4_ties 42 = .ok (.aload_n 0, 1) by decide +kernel) rfl,
    mm_r_aload_n X (show decode cX4_ties 43 = .ok (.aload_n 0, 1) by decide +kernel) rfl,
    mm_r_gfI X (ci := 4) (p := 5) (show mm_kd 4 5 = 0 by decide +kernel) rfl (Nat.le_of_ble_eq_true rfl) (show decode cX4_ties 44 = .ok (.getfield 33, 3) by decide +kernel) mw_301 rfl,
    mm_r_clV X hth (ci := 4) (na := 1) (sn_X4_cellsOf hl) rfl (show decode cX4_ties 47 = .ok (.invokevirtual 98, 3) by decide +kernel) mw_889 mw_886 mw_888 mw_23 mw_50 hd_X4_cellsOf ⟨(Nat.le_of_ble_eq_true rfl), (Nat.le_of_ble_eq_true rfl)⟩,
    mm_r_lload_n X (show decode cX4_ties 50 = .ok (.lload_n 2, 1) by decide +kernel) rfl,
    mm_r_clV X hth (ci := 1) (na := 2) (sn_X1_reach hl) rfl (show decode cX4_ties 51 = .ok (.invokevirtual 101, 3) by decide +kernel) mw_226 mw_891 mw_224 mw_225 mw_45 hd_X1_reach ⟨(Nat.le_of_ble_eq_true rfl), (Nat.le_of_ble_eq_true rfl)⟩,
    mm_r_aload_n X (show decode cX4_ties 54 = .ok (.aload_n 0, 1) by decide +kernel) rfl,
    mm_r_aload_n X (show decode cX4_ties 55 = .ok (.aload_n 0, 1) by decide +kernel) rfl,
    mm_r_gfI X (ci := 4) (p := 6) (show mm_kd 4 6 = 0 by decide +kernel) rfl (Nat.le_of_ble_eq_true rfl) (show decode cX4_ties 56 = .ok (.getfield 37, 3) by decide +kernel) mw_302 rfl,
    mm_r_clV X hth (ci := 4) (na := 1) (sn_X4_cellsOf hl) rfl (show decode cX4_ties 59 = .ok (.invokevirtual 98, 3) by decide +kernel) mw_889 mw_886 mw_888 mw_23 mw_50 hd_X4_cellsOf ⟨(Nat.le_of_ble_eq_true rfl), (Nat.le_of_ble_eq_true rfl)⟩,
    mm_r_land X (show decode cX4_ties 62 = .ok (.land, 1) by decide +kernel),
    mm_r_lconst X (show decode cX4_ties 63 = .ok (.lconst 0, 1) by decide +kernel) rfl,
    mm_r_lcmp X (show decode cX4_ties 64 = .ok (.lcmp, 1) by decide +kernel),
    mm_r_eq1 X (show decode cX4_ties 65 = .ok (.ifCond .eq 7, 3) by decide +kernel) (by decide),
    mm_r_iconst X (show decode cX4_ties 68 = .ok (.iconst 1, 1) by decide +kernel) rfl,
    mm_r_goto X (show decode cX4_ties 69 = .ok (.goto 4, 3) by decide +kernel) (by decide),
    mm_r_iconst X (show decode cX4_ties 72 = .ok (.iconst 0, 1) by decide +kernel) rfl,
    mm_r_istore X (show decode cX4_ties 73 = .ok (.istore 4, 2) by decide +kernel) (Nat.le_of_ble_eq_true rfl),
    mm_r_aload_n X (show decode cX4_ties 75 = .ok (.aload_n 0, 1) by decide +kernel) rfl,
    mm_r_gfR X (ci := 4) (p := 2) (show mm_kd 4 2 = 2 by decide +kernel) rfl (Nat.le_of_ble_eq_true rfl) (show decode cX4_ties 76 = .ok (.getfield 18, 3) by decide +kernel) mw_298 rfl,
    mm_r_iload_n X (show decode cX4_ties 79 = .ok (.iload_n 1, 1) by decide +kernel) rfl,
    mm_r_iload X (show decode cX4_ties 80 = .ok (.iload 4, 2) by decide +kernel),
    mm_r_eq1 X (show decode cX4_ties 82 = .ok (.ifCond .eq 7, 3) by decide +kernel) (by decide),
    mm_r_iconst X (show decode cX4_ties 85 = .ok (.iconst 2, 1) by decide +kernel) rfl,
    mm_r_goto X (show decode cX4_ties 86 = .ok (.goto 4, 3) by decide +kernel) (by decide),
    mm_r_iconst X (show decode cX4_ties 89 = .ok (.iconst 1, 1) by decide +kernel) rfl,
    mm_r_i2b X (show decode cX4_ties 90 = .ok (.i2b, 1) by decide +kernel),
    mm_r_bast X (show decode cX4_ties 91 = .ok (.bastore, 1) by decide +kernel),
    mm_r_aload_n X (show decode cX4_ties 92 = .ok (.aload_n 0, 1) by decide +kernel) rfl,
    mm_r_gfR X (ci := 4) (p := 2) (show mm_kd 4 2 = 2 by decide +kernel) rfl (Nat.le_of_ble_eq_true rfl) (show decode cX4_ties 93 = .ok (.getfield 18, 3) by decide +kernel) mw_298 rfl,
    mm_r_iload_n X (show decode cX4_ties 96 = .ok (.iload_n 1, 1) by decide +kernel) rfl,
    mm_r_bald X (show decode cX4_ties 97 = .ok (.baload, 1) by decide +kernel),
    mm_r_iconst X (show decode cX4_ties 98 = .ok (.iconst 2, 1) by decide +kernel) rfl,
    mm_r_ne2 X (show decode cX4_ties 99 = .ok (.if_icmp .ne 7, 3) by decide +kernel) (by decide),
    mm_r_iconst X (show decode cX4_ties 102 = .ok (.iconst 1, 1) by decide +kernel) rfl,
    mm_r_goto X (show decode cX4_ties 103 = .ok (.goto 4, 3) by decide +kernel) (by decide),
    mm_r_iconst X (show decode cX4_ties 106 = .ok (.iconst 0, 1) by decide +kernel) rfl,
    mm_r_zret X hret (show decode cX4_ties 107 = .ok (.ireturn, 1) by decide +kernel), trivial⟩
theorem sn_X4_ties {l : Launch} (hl : l.stackTraces = false) : mm_Snd l yX4_ties (.code yX4_ties cX4_ties 5 (some .boolean)) 3 73 f_X4_ties := mm_met hl (plainFor_of_name (by decide +kernel)) (ok_X4_ties hl)
/-! a recursion: X4_holds, X4_hasAnswers, X4_hasAnswer -/
noncomputable def tb_X4_hasAnswer (g : mm_F) : List (Nat × mm_I) := [(0, mm_k 1 (.int 0)), (1, mm_stI 3 4), (3, mm_ldI 5 4), (5, mm_ldR 6 0), (6, mm_gfR 9 4 1), (9, mm_gfI 12 2 2), (12, mm_ge2 59 15), (15, mm_k 16 (.int 1)), (16, mm_ldI 18 4), (18, mm_i2 19 (fun a b => a <<< (b &&& 31))), (19, mm_stI 21 5), (21, mm_ldI 22 2), (22, mm_il 23 (fun a => a.toInt64)), (23, mm_ldI 25 4), (25, mm_clS 28 2 f_X10_has), (28, mm_eq1 53 31), (31, mm_ldR 32 0), (32, mm_ldI 33 1), (33, mm_ldI 35 5), (35, mm_i2 36 (fun a b => a ||| b)), (36, mm_ldI 37 2), (37, mm_ldI 39 5), (39, mm_k 40 (.int (-1))), (40, mm_i2 41 (fun a b => a ^^^ b)), (41, mm_i2 42 (fun a b => a &&& b)), (42, mm_ldI 43 3), (43, mm_k 44 (.int 1)), (44, mm_i2 45 (fun a b => a + b)), (45, mm_clV 48 4 3 g), (48, mm_eq1 53 51), (51, mm_k 52 (.int 1)), (52, mm_rtZ), (53, mm_inc 56 4 1), (56, mm_go 3), (59, mm_k 60 (.int 0)), (60, mm_rtZ)]
noncomputable def f_X4_hasAnswer (g : mm_F) : mm_F := mm_do (mm_pr (tb_X4_hasAnswer g)) 6
theorem mn_X4_hasAnswer {g : mm_F} (hg : mm_Mo g) : mm_alln (tb_X4_hasAnswer g) := ⟨mm_n_k _ _, mm_n_stI _ _, mm_n_ldI _ _, mm_n_ldR _ _, mm_n_gfR _ _ _, mm_n_gfI _ _ _, mm_n_ge2 _ _, mm_n_k _ _, mm_n_ldI _ _, mm_n_i2 _ _, mm_n_stI _ _, mm_n_ldI _ _, mm_n_il _ _, mm_n_ldI _ _, mm_n_clS _ _ (mo_X10_has), mm_n_eq1 _ _, mm_n_ldR _ _, mm_n_ldI _ _, mm_n_ldI _ _, mm_n_i2 _ _, mm_n_ldI _ _, mm_n_ldI _ _, mm_n_k _ _, mm_n_i2 _ _, mm_n_i2 _ _, mm_n_ldI _ _, mm_n_k _ _, mm_n_i2 _ _, mm_n_clV _ _ _ hg, mm_n_eq1 _ _, mm_n_k _ _, mm_n_rtZ, mm_n_inc _ _ _, mm_n_go _, mm_n_k _ _, mm_n_rtZ, trivial⟩
theorem mo_X4_hasAnswer {g : mm_F} (hg : mm_Mo g) : mm_Mo (f_X4_hasAnswer g) := mm_do_mo (mm_alln_mem (mn_X4_hasAnswer hg))
set_option maxRecDepth 10000 in
theorem ok_X4_hasAnswer {l : Launch} (hl : l.stackTraces = false) {g : mm_F} {fr lo : Nat} (hg : mm_Snd l yX4_holds (.code yX4_holds cX4_holds 5 (some .boolean)) fr lo g) (h30 : 40 ≤ fr ∧ 2000 ≤ lo) : mm_Ok l yX4_hasAnswer cX4_hasAnswer 6 (some .boolean) (fr + 1) (lo + 24) (tb_X4_hasAnswer g) := by
  refine ⟨mm_alln_mem (mn_X4_hasAnswer hg.1), fun p e cells slots s m args below meth c D tc A S ad Tg X hret hname htab hth => mm_allr_mem ?_⟩
  exact ⟨mm_r_iconst X (show decode cX4_hasAnswer 0 = .ok (.iconst 0, 1) by decide +kernel) rfl,
    mm_r_istore X (show decode cX4_hasAnswer 1 = .ok (.istore 4, 2) by decide +kernel) (Nat.le_of_ble_eq_true rfl),
    mm_r_iload X (show decode cX4_hasAnswer 3 = .ok (.iload 4, 2) by decide +kernel),
    mm_r_aload_n X (show decode cX4_hasAnswer 5 = .ok (.aload_n 0, 1) by decide +kernel) rfl,
    mm_r_gfR X (ci := 4) (p := 1) (show mm_kd 4 1 = 2 by decide +kernel) rfl (Nat.le_of_ble_eq_true rfl) (show decode cX4_hasAnswer 6 = .ok (.getfield 12, 3) by decide +kernel) mw_297 rfl,
    mm_r_gfI X (ci := 2) (p := 2) (show mm_kd 2 2 = 0 by decide +kernel) rfl (Nat.le_of_ble_eq_true rfl) (show decode cX4_hasAnswer 9 = .ok (.getfield 60, 3) by decide +kernel) mw_253 rfl,
    mm_r_ge2 X (show decode cX4_hasAnswer 12 = .ok (.if_icmp .ge 47, 3) by decide +kernel) (by decide),
    mm_r_iconst X (show decode cX4_hasAnswer 15 = .ok (.iconst 1, 1) by decide +kernel) rfl,
    mm_r_iload X (show decode cX4_hasAnswer 16 = .ok (.iload 4, 2) by decide +kernel),
    mm_r_ishl X (show decode cX4_hasAnswer 18 = .ok (.ishl, 1) by decide +kernel),
    mm_r_istore X (show decode cX4_hasAnswer 19 = .ok (.istore 5, 2) by decide +kernel) (Nat.le_of_ble_eq_true rfl),
    mm_r_iload_n X (show decode cX4_hasAnswer 21 = .ok (.iload_n 2, 1) by decide +kernel) rfl,
    mm_r_i2l X (show decode cX4_hasAnswer 22 = .ok (.i2l, 1) by decide +kernel),
    mm_r_iload X (show decode cX4_hasAnswer 23 = .ok (.iload 4, 2) by decide +kernel),
    mm_r_clSN X hth (na := 2) (sn_X10_has hl) (show decode cX4_hasAnswer 25 = .ok (.invokestatic 77, 3) by decide +kernel) mw_593 (show ("Linkcourt$Links", 77, yX10_has) ∈ mm_nest by decide +kernel) mw_592 mw_44 hd_X10_has.2 ⟨by show 1 + 1 ≤ fr + 1; omega, by show 8 + (3 + 11) + 20 ≤ lo + 24; omega⟩,
    mm_r_eq1 X (show decode cX4_hasAnswer 28 = .ok (.ifCond .eq 25, 3) by decide +kernel) (by decide),
    mm_r_aload_n X (show decode cX4_hasAnswer 31 = .ok (.aload_n 0, 1) by decide +kernel) rfl,
    mm_r_iload_n X (show decode cX4_hasAnswer 32 = .ok (.iload_n 1, 1) by decide +kernel) rfl,
    mm_r_iload X (show decode cX4_hasAnswer 33 = .ok (.iload 5, 2) by decide +kernel),
    mm_r_ior X (show decode cX4_hasAnswer 35 = .ok (.ior, 1) by decide +kernel),
    mm_r_iload_n X (show decode cX4_hasAnswer 36 = .ok (.iload_n 2, 1) by decide +kernel) rfl,
    mm_r_iload X (show decode cX4_hasAnswer 37 = .ok (.iload 5, 2) by decide +kernel),
    mm_r_iconst X (show decode cX4_hasAnswer 39 = .ok (.iconst (-1), 1) by decide +kernel) rfl,
    mm_r_ixor X (show decode cX4_hasAnswer 40 = .ok (.ixor, 1) by decide +kernel),
    mm_r_iand X (show decode cX4_hasAnswer 41 = .ok (.iand, 1) by decide +kernel),
    mm_r_iload_n X (show decode cX4_hasAnswer 42 = .ok (.iload_n 3, 1) by decide +kernel) rfl,
    mm_r_iconst X (show decode cX4_hasAnswer 43 = .ok (.iconst 1, 1) by decide +kernel) rfl,
    mm_r_iadd X (show decode cX4_hasAnswer 44 = .ok (.iadd, 1) by decide +kernel),
    mm_r_clV X hth (ci := 4) (na := 3) hg rfl (show decode cX4_hasAnswer 45 = .ok (.invokevirtual 54, 3) by decide +kernel) mw_880 mw_877 mw_879 mw_21 mw_50 hd_X4_holds ⟨by show fr + 1 ≤ fr + 1; omega, by show 8 + (5 + 11) + lo ≤ lo + 24; omega⟩,
    mm_r_eq1 X (show decode cX4_hasAnswer 48 = .ok (.ifCond .eq 5, 3) by decide +kernel) (by decide),
    mm_r_iconst X (show decode cX4_hasAnswer 51 = .ok (.iconst 1, 1) by decide +kernel) rfl,
    mm_r_zret X hret (show decode cX4_hasAnswer 52 = .ok (.ireturn, 1) by decide +kernel),
    mm_r_iinc X (show decode cX4_hasAnswer 53 = .ok (.iinc 4 1, 3) by decide +kernel) rfl (Nat.le_of_ble_eq_true rfl),
    mm_r_goto X (show decode cX4_hasAnswer 56 = .ok (.goto (-53), 3) by decide +kernel) (by decide),
    mm_r_iconst X (show decode cX4_hasAnswer 59 = .ok (.iconst 0, 1) by decide +kernel) rfl,
    mm_r_zret X hret (show decode cX4_hasAnswer 60 = .ok (.ireturn, 1) by decide +kernel), trivial⟩
theorem sn_X4_hasAnswer {l : Launch} (hl : l.stackTraces = false) {g : mm_F} {fr lo : Nat} (hg : mm_Snd l yX4_holds (.code yX4_holds cX4_holds 5 (some .boolean)) fr lo g) (h30 : 40 ≤ fr ∧ 2000 ≤ lo) : mm_Snd l yX4_hasAnswer (.code yX4_hasAnswer cX4_hasAnswer 6 (some .boolean)) (fr + 1) (lo + 24) (f_X4_hasAnswer g) := mm_met hl (plainFor_of_name (by decide +kernel)) (ok_X4_hasAnswer hl hg h30)
noncomputable def tb_X4_hasAnswers (g : mm_F) : List (Nat × mm_I) := [(0, mm_k 1 (.int 0)), (1, mm_stI 3 4), (3, mm_ldI 5 4), (5, mm_ldR 6 0), (6, mm_gfR 9 4 1), (9, mm_gfI 12 2 2), (12, mm_ge2 50 15), (15, mm_ldI 16 2), (16, mm_il 17 (fun a => a.toInt64)), (17, mm_ldI 19 4), (19, mm_clS 22 2 f_X10_has), (22, mm_eq1 44 25), (25, mm_ldR 26 0), (26, mm_ldI 27 1), (27, mm_ldI 28 2), (28, mm_k 29 (.int 1)), (29, mm_ldI 31 4), (31, mm_i2 32 (fun a b => a <<< (b &&& 31))), (32, mm_k 33 (.int (-1))), (33, mm_i2 34 (fun a b => a ^^^ b)), (34, mm_i2 35 (fun a b => a &&& b)), (35, mm_ldI 36 3), (36, mm_clV 39 4 3 (f_X4_hasAnswer g)), (39, mm_ne1 44 42), (42, mm_k 43 (.int 0)), (43, mm_rtZ), (44, mm_inc 47 4 1), (47, mm_go 3), (50, mm_k 51 (.int 1)), (51, mm_rtZ)]
noncomputable def f_X4_hasAnswers (g : mm_F) : mm_F := mm_do (mm_pr (tb_X4_hasAnswers g)) 5
theorem mn_X4_hasAnswers {g : mm_F} (hg : mm_Mo g) : mm_alln (tb_X4_hasAnswers g) := ⟨mm_n_k _ _, mm_n_stI _ _, mm_n_ldI _ _, mm_n_ldR _ _, mm_n_gfR _ _ _, mm_n_gfI _ _ _, mm_n_ge2 _ _, mm_n_ldI _ _, mm_n_il _ _, mm_n_ldI _ _, mm_n_clS _ _ (mo_X10_has), mm_n_eq1 _ _, mm_n_ldR _ _, mm_n_ldI _ _, mm_n_ldI _ _, mm_n_k _ _, mm_n_ldI _ _, mm_n_i2 _ _, mm_n_k _ _, mm_n_i2 _ _, mm_n_i2 _ _, mm_n_ldI _ _, mm_n_clV _ _ _ (mo_X4_hasAnswer hg), mm_n_ne1 _ _, mm_n_k _ _, mm_n_rtZ, mm_n_inc _ _ _, mm_n_go _, mm_n_k _ _, mm_n_rtZ, trivial⟩
theorem mo_X4_hasAnswers {g : mm_F} (hg : mm_Mo g) : mm_Mo (f_X4_hasAnswers g) := mm_do_mo (mm_alln_mem (mn_X4_hasAnswers hg))
set_option maxRecDepth 10000 in
theorem ok_X4_hasAnswers {l : Launch} (hl : l.stackTraces = false) {g : mm_F} {fr lo : Nat} (hg : mm_Snd l yX4_holds (.code yX4_holds cX4_holds 5 (some .boolean)) fr lo g) (h30 : 40 ≤ fr ∧ 2000 ≤ lo) : mm_Ok l yX4_hasAnswers cX4_hasAnswers 5 (some .boolean) (fr + 2) (lo + 49) (tb_X4_hasAnswers g) := by
  refine ⟨mm_alln_mem (mn_X4_hasAnswers hg.1), fun p e cells slots s m args below meth c D tc A S ad Tg X hret hname htab hth => mm_allr_mem ?_⟩
  exact ⟨mm_r_iconst X (show decode cX4_hasAnswers 0 = .ok (.iconst 0, 1) by decide +kernel) rfl,
    mm_r_istore X (show decode cX4_hasAnswers 1 = .ok (.istore 4, 2) by decide +kernel) (Nat.le_of_ble_eq_true rfl),
    mm_r_iload X (show decode cX4_hasAnswers 3 = .ok (.iload 4, 2) by decide +kernel),
    mm_r_aload_n X (show decode cX4_hasAnswers 5 = .ok (.aload_n 0, 1) by decide +kernel) rfl,
    mm_r_gfR X (ci := 4) (p := 1) (show mm_kd 4 1 = 2 by decide +kernel) rfl (Nat.le_of_ble_eq_true rfl) (show decode cX4_hasAnswers 6 = .ok (.getfield 12, 3) by decide +kernel) mw_297 rfl,
    mm_r_gfI X (ci := 2) (p := 2) (show mm_kd 2 2 = 0 by decide +kernel) rfl (Nat.le_of_ble_eq_true rfl) (show decode cX4_hasAnswers 9 = .ok (.getfield 60, 3) by decide +kernel) mw_253 rfl,
    mm_r_ge2 X (show decode cX4_hasAnswers 12 = .ok (.if_icmp .ge 38, 3) by decide +kernel) (by decide),
    mm_r_iload_n X (show decode cX4_hasAnswers 15 = .ok (.iload_n 2, 1) by decide +kernel) rfl,
    mm_r_i2l X (show decode cX4_hasAnswers 16 = .ok (.i2l, 1) by decide +kernel),
    mm_r_iload X (show decode cX4_hasAnswers 17 = .ok (.iload 4, 2) by decide +kernel),
    mm_r_clSN X hth (na := 2) (sn_X10_has hl) (show decode cX4_hasAnswers 19 = .ok (.invokestatic 77, 3) by decide +kernel) mw_593 (show ("Linkcourt$Links", 77, yX10_has) ∈ mm_nest by decide +kernel) mw_592 mw_44 hd_X10_has.2 ⟨by show 1 + 1 ≤ fr + 2; omega, by show 8 + (3 + 11) + 20 ≤ lo + 49; omega⟩,
    mm_r_eq1 X (show decode cX4_hasAnswers 22 = .ok (.ifCond .eq 22, 3) by decide +kernel) (by decide),
    mm_r_aload_n X (show decode cX4_hasAnswers 25 = .ok (.aload_n 0, 1) by decide +kernel) rfl,
    mm_r_iload_n X (show decode cX4_hasAnswers 26 = .ok (.iload_n 1, 1) by decide +kernel) rfl,
    mm_r_iload_n X (show decode cX4_hasAnswers 27 = .ok (.iload_n 2, 1) by decide +kernel) rfl,
    mm_r_iconst X (show decode cX4_hasAnswers 28 = .ok (.iconst 1, 1) by decide +kernel) rfl,
    mm_r_iload X (show decode cX4_hasAnswers 29 = .ok (.iload 4, 2) by decide +kernel),
    mm_r_ishl X (show decode cX4_hasAnswers 31 = .ok (.ishl, 1) by decide +kernel),
    mm_r_iconst X (show decode cX4_hasAnswers 32 = .ok (.iconst (-1), 1) by decide +kernel) rfl,
    mm_r_ixor X (show decode cX4_hasAnswers 33 = .ok (.ixor, 1) by decide +kernel),
    mm_r_iand X (show decode cX4_hasAnswers 34 = .ok (.iand, 1) by decide +kernel),
    mm_r_iload_n X (show decode cX4_hasAnswers 35 = .ok (.iload_n 3, 1) by decide +kernel) rfl,
    mm_r_clV X hth (ci := 4) (na := 3) (sn_X4_hasAnswer hl hg h30) rfl (show decode cX4_hasAnswers 36 = .ok (.invokevirtual 95, 3) by decide +kernel) mw_901 mw_898 mw_900 mw_25 mw_50 hd_X4_hasAnswer ⟨by show fr + 1 + 1 ≤ fr + 2; omega, by show 8 + (6 + 11) + (lo + 24) ≤ lo + 49; omega⟩,
    mm_r_ne1 X (show decode cX4_hasAnswers 39 = .ok (.ifCond .ne 5, 3) by decide +kernel) (by decide),
    mm_r_iconst X (show decode cX4_hasAnswers 42 = .ok (.iconst 0, 1) by decide +kernel) rfl,
    mm_r_zret X hret (show decode cX4_hasAnswers 43 = .ok (.ireturn, 1) by decide +kernel),
    mm_r_iinc X (show decode cX4_hasAnswers 44 = .ok (.iinc 4 1, 3) by decide +kernel) rfl (Nat.le_of_ble_eq_true rfl),
    mm_r_goto X (show decode cX4_hasAnswers 47 = .ok (.goto (-44), 3) by decide +kernel) (by decide),
    mm_r_iconst X (show decode cX4_hasAnswers 50 = .ok (.iconst 1, 1) by decide +kernel) rfl,
    mm_r_zret X hret (show decode cX4_hasAnswers 51 = .ok (.ireturn, 1) by decide +kernel), trivial⟩
theorem sn_X4_hasAnswers {l : Launch} (hl : l.stackTraces = false) {g : mm_F} {fr lo : Nat} (hg : mm_Snd l yX4_holds (.code yX4_holds cX4_holds 5 (some .boolean)) fr lo g) (h30 : 40 ≤ fr ∧ 2000 ≤ lo) : mm_Snd l yX4_hasAnswers (.code yX4_hasAnswers cX4_hasAnswers 5 (some .boolean)) (fr + 2) (lo + 49) (f_X4_hasAnswers g) := mm_met hl (plainFor_of_name (by decide +kernel)) (ok_X4_hasAnswers hl hg h30)
noncomputable def tb_X4_holds (g : mm_F) : List (Nat × mm_I) := [(0, mm_ldR 1 0), (1, mm_ldI 2 1), (2, mm_clV 5 4 1 f_X4_ties), (5, mm_eq1 10 8), (8, mm_k 9 (.int 1)), (9, mm_rtZ), (10, mm_ldR 11 0), (11, mm_gfR 14 4 1), (14, mm_ldI 15 1), (15, mm_ldI 16 2), (16, mm_clV 19 2 2 f_X2_pair), (19, mm_stI 21 4), (21, mm_ldI 23 4), (23, mm_lt1 52 26), (26, mm_ldI 28 4), (28, mm_ldR 29 0), (29, mm_gfR 32 4 3), (32, mm_aln 33 2), (33, mm_ge2 52 36), (36, mm_ldI 37 3), (37, mm_k 39 (.int 9)), (39, mm_gt2 52 42), (42, mm_ldR 43 0), (43, mm_ldI 44 1), (44, mm_ldI 45 2), (45, mm_i2 46 (fun a b => a ||| b)), (46, mm_clV 49 4 1 f_X4_ties), (49, mm_ne1 54 52), (52, mm_k 53 (.int 0)), (53, mm_rtZ), (54, mm_ldR 55 0), (55, mm_gfR 58 4 3), (58, mm_ldI 60 4), (60, mm_ald 61 2), (61, mm_ne1 87 64), (64, mm_ldR 65 0), (65, mm_gfR 68 4 3), (68, mm_ldI 70 4), (70, mm_ldR 71 0), (71, mm_ldI 72 1), (72, mm_ldI 73 2), (73, mm_ldI 74 3), (74, mm_clV 77 4 3 (f_X4_hasAnswers g)), (77, mm_eq1 84 80), (80, mm_k 81 (.int 2)), (81, mm_go 85), (84, mm_k 85 (.int 1)), (85, mm_i1 86 (fun a => a.toInt8.toInt32)), (86, mm_ast 87 2 (fun v => v.toInt8.toInt32)), (87, mm_ldR 88 0), (88, mm_gfR 91 4 3), (91, mm_ldI 93 4), (93, mm_ald 94 2), (94, mm_k 95 (.int 2)), (95, mm_ne2 102 98), (98, mm_k 99 (.int 1)), (99, mm_go 103), (102, mm_k 103 (.int 0)), (103, mm_rtZ)]
theorem mn_X4_holds {g : mm_F} (hg : mm_Mo g) : mm_alln (tb_X4_holds g) := ⟨mm_n_ldR _ _, mm_n_ldI _ _, mm_n_clV _ _ _ (mo_X4_ties), mm_n_eq1 _ _, mm_n_k _ _, mm_n_rtZ, mm_n_ldR _ _, mm_n_gfR _ _ _, mm_n_ldI _ _, mm_n_ldI _ _, mm_n_clV _ _ _ (mo_X2_pair), mm_n_stI _ _, mm_n_ldI _ _, mm_n_lt1 _ _, mm_n_ldI _ _, mm_n_ldR _ _, mm_n_gfR _ _ _, mm_n_aln _ _, mm_n_ge2 _ _, mm_n_ldI _ _, mm_n_k _ _, mm_n_gt2 _ _, mm_n_ldR _ _, mm_n_ldI _ _, mm_n_ldI _ _, mm_n_i2 _ _, mm_n_clV _ _ _ (mo_X4_ties), mm_n_ne1 _ _, mm_n_k _ _, mm_n_rtZ, mm_n_ldR _ _, mm_n_gfR _ _ _, mm_n_ldI _ _, mm_n_ald _ _, mm_n_ne1 _ _, mm_n_ldR _ _, mm_n_gfR _ _ _, mm_n_ldI _ _, mm_n_ldR _ _, mm_n_ldI _ _, mm_n_ldI _ _, mm_n_ldI _ _, mm_n_clV _ _ _ (mo_X4_hasAnswers hg), mm_n_eq1 _ _, mm_n_k _ _, mm_n_go _, mm_n_k _ _, mm_n_i1 _ _, mm_n_ast _ _ _, mm_n_ldR _ _, mm_n_gfR _ _ _, mm_n_ldI _ _, mm_n_ald _ _, mm_n_k _ _, mm_n_ne2 _ _, mm_n_k _ _, mm_n_go _, mm_n_k _ _, mm_n_rtZ, trivial⟩
theorem mo_X4_holds {g : mm_F} (hg : mm_Mo g) : mm_Mo (mm_do (mm_pr (tb_X4_holds g)) 5) := mm_do_mo (mm_alln_mem (mn_X4_holds hg))
set_option maxRecDepth 10000 in
theorem ok_X4_holds {l : Launch} (hl : l.stackTraces = false) {g : mm_F} {fr lo : Nat} (hg : mm_Snd l yX4_holds (.code yX4_holds cX4_holds 5 (some .boolean)) fr lo g) (h30 : 40 ≤ fr ∧ 2000 ≤ lo) : mm_Ok l yX4_holds cX4_holds 5 (some .boolean) (fr + 3) (lo + 73) (tb_X4_holds g) := by
  refine ⟨mm_alln_mem (mn_X4_holds hg.1), fun p e cells slots s m args below meth c D tc A S ad Tg X hret hname htab hth => mm_allr_mem ?_⟩
  exact ⟨mm_r_aload_n X (show decode cX4_holds 0 = .ok (.aload_n 0, 1) by decide +kernel) rfl,
    mm_r_iload_n X (show decode cX4_holds 1 = .ok (.iload_n 1, 1) by decide +kernel) rfl,
    mm_r_clV X hth (ci := 4) (na := 1) (sn_X4_ties hl) rfl (show decode cX4_holds 2 = .ok (.invokevirtual 84, 3) by decide +kernel) mw_884 mw_881 mw_883 mw_22 mw_50 hd_X4_ties ⟨by show 3 + 1 ≤ fr + 3; omega, by show 8 + (5 + 11) + 73 ≤ lo + 73; omega⟩,
    mm_r_eq1 X (show decode cX4_holds 5 = .ok (.ifCond .eq 5, 3) by decide +kernel) (by decide),
    mm_r_iconst X (show decode cX4_holds 8 = .ok (.iconst 1, 1) by decide +kernel) rfl,
    mm_r_zret X hret (show decode cX4_holds 9 = .ok (.ireturn, 1) by decide +kernel),
    mm_r_aload_n X (show decode cX4_holds 10 = .ok (.aload_n 0, 1) by decide +kernel) rfl,
    mm_r_gfR X (ci := 4) (p := 1) (show mm_kd 4 1 = 2 by decide +kernel) rfl (Nat.le_of_ble_eq_true rfl) (show decode cX4_holds 11 = .ok (.getfield 12, 3) by decide +kernel) mw_297 rfl,
    mm_r_iload_n X (show decode cX4_holds 14 = .ok (.iload_n 1, 1) by decide +kernel) rfl,
    mm_r_iload_n X (show decode cX4_holds 15 = .ok (.iload_n 2, 1) by decide +kernel) rfl,
    mm_r_clV X hth (ci := 2) (na := 2) (sn_X2_pair hl) rfl (show decode cX4_holds 16 = .ok (.invokevirtual 88, 3) by decide +kernel) mw_828 mw_892 mw_826 mw_827 mw_49 hd_X2_pair ⟨by show 1 + 1 ≤ fr + 3; omega, by show 8 + (3 + 11) + 20 ≤ lo + 73; omega⟩,
    mm_r_istore X (show decode cX4_holds 19 = .ok (.istore 4, 2) by decide +kernel) (Nat.le_of_ble_eq_true rfl),
    mm_r_iload X (show decode cX4_holds 21 = .ok (.iload 4, 2) by decide +kernel),
    mm_r_lt1 X (show decode cX4_holds 23 = .ok (.ifCond .lt 29, 3) by decide +kernel) (by decide),
    mm_r_iload X (show decode cX4_holds 26 = .ok (.iload 4, 2) by decide +kernel),
    mm_r_aload_n X (show decode cX4_holds 28 = .ok (.aload_n 0, 1) by decide +kernel) rfl,
    mm_r_gfR X (ci := 4) (p := 3) (show mm_kd 4 3 = 2 by decide +kernel) rfl (Nat.le_of_ble_eq_true rfl) (show decode cX4_holds 29 = .ok (.getfield 22, 3) by decide +kernel) mw_299 rfl,
    mm_r_aln X (t := 2) (Nat.le_of_ble_eq_true rfl) (show decode cX4_holds 32 = .ok (.arraylength, 1) by decide +kernel),
    mm_r_ge2 X (show decode cX4_holds 33 = .ok (.if_icmp .ge 19, 3) by decide +kernel) (by decide),
    mm_r_iload_n X (show decode cX4_holds 36 = .ok (.iload_n 3, 1) by decide +kernel) rfl,
    mm_r_bipush X (show decode cX4_holds 37 = .ok (.bipush 9, 2) by decide +kernel) rfl,
    mm_r_gt2 X (show decode cX4_holds 39 = .ok (.if_icmp .gt 13, 3) by decide +kernel) (by decide),
    mm_r_aload_n X (show decode cX4_holds 42 = .ok (.aload_n 0, 1) by decide +kernel) rfl,
    mm_r_iload_n X (show decode cX4_holds 43 = .ok (.iload_n 1, 1) by decide +kernel) rfl,
    mm_r_iload_n X (show decode cX4_holds 44 = .ok (.iload_n 2, 1) by decide +kernel) rfl,
    mm_r_ior X (show decode cX4_holds 45 = .ok (.ior, 1) by decide +kernel),
    mm_r_clV X hth (ci := 4) (na := 1) (sn_X4_ties hl) rfl (show decode cX4_holds 46 = .ok (.invokevirtual 84, 3) by decide +kernel) mw_884 mw_881 mw_883 mw_22 mw_50 hd_X4_ties ⟨by show 3 + 1 ≤ fr + 3; omega, by show 8 + (5 + 11) + 73 ≤ lo + 73; omega⟩,
    mm_r_ne1 X (show decode cX4_holds 49 = .ok (.ifCond .ne 5, 3) by decide +kernel) (by decide),
    mm_r_iconst X (show decode cX4_holds 52 = .ok (.iconst 0, 1) by decide +kernel) rfl,
    mm_r_zret X hret (show decode cX4_holds 53 = .ok (.ireturn, 1) by decide +kernel),
    mm_r_aload_n X (show decode cX4_holds 54 = .ok (.aload_n 0, 1) by decide +kernel) rfl,
    mm_r_gfR X (ci := 4) (p := 3) (show mm_kd 4 3 = 2 by decide +kernel) rfl (Nat.le_of_ble_eq_true rfl) (show decode cX4_holds 55 = .ok (.getfield 22, 3) by decide +kernel) mw_299 rfl,
    mm_r_iload X (show decode cX4_holds 58 = .ok (.iload 4, 2) by decide +kernel),
    mm_r_bald X (show decode cX4_holds 60 = .ok (.baload, 1) by decide +kernel),
    mm_r_ne1 X (show decode cX4_holds 61 = .ok (.ifCond .ne 26, 3) by decide +kernel) (by decide),
    mm_r_aload_n X (show decode cX4_holds 64 = .ok (.aload_n 0, 1) by decide +kernel) rfl,
    mm_r_gfR X (ci := 4) (p := 3) (show mm_kd 4 3 = 2 by decide +kernel) rfl (Nat.le_of_ble_eq_true rfl) (show decode cX4_holds 65 = .ok (.getfield 22, 3) by decide +kernel) mw_299 rfl,
    mm_r_iload X (show decode cX4_holds 68 = .ok (.iload 4, 2) by decide +kernel),
    mm_r_aload_n X (show decode cX4_holds 70 = .ok (.aload_n 0, 1) by decide +kernel) rfl,
    mm_r_iload_n X (show decode cX4_holds 71 = .ok (.iload_n 1, 1) by decide +kernel) rfl,
    mm_r_iload_n X (show decode cX4_holds 72 = .ok (.iload_n 2, 1) by decide +kernel) rfl,
    mm_r_iload_n X (show decode cX4_holds 73 = .ok (.iload_n 3, 1) by decide +kernel) rfl,
    mm_r_clV X hth (ci := 4) (na := 3) (sn_X4_hasAnswers hl hg h30) rfl (show decode cX4_holds 74 = .ok (.invokevirtual 92, 3) by decide +kernel) mw_896 mw_893 mw_895 mw_24 mw_50 hd_X4_hasAnswers ⟨by show fr + 2 + 1 ≤ fr + 3; omega, by show 8 + (5 + 11) + (lo + 49) ≤ lo + 73; omega⟩,
    mm_r_eq1 X (show decode cX4_holds 77 = .ok (.ifCond .eq 7, 3) by decide +kernel) (by decide),
    mm_r_iconst X (show decode cX4_holds 80 = .ok (.iconst 2, 1) by decide +kernel) rfl,
    mm_r_goto X (show decode cX4_holds 81 = .ok (.goto 4, 3) by decide +kernel) (by decide),
    mm_r_iconst X (show decode cX4_holds 84 = .ok (.iconst 1, 1) by decide +kernel) rfl,
    mm_r_i2b X (show decode cX4_holds 85 = .ok (.i2b, 1) by decide +kernel),
    mm_r_bast X (show decode cX4_holds 86 = .ok (.bastore, 1) by decide +kernel),
    mm_r_aload_n X (show decode cX4_holds 87 = .ok (.aload_n 0, 1) by decide +kernel) rfl,
    mm_r_gfR X (ci := 4) (p := 3) (show mm_kd 4 3 = 2 by decide +kernel) rfl (Nat.le_of_ble_eq_true rfl) (show decode cX4_holds 88 = .ok (.getfield 22, 3) by decide +kernel) mw_299 rfl,
    mm_r_iload X (show decode cX4_holds 91 = .ok (.iload 4, 2) by decide +kernel),
    mm_r_bald X (show decode cX4_holds 93 = .ok (.baload, 1) by decide +kernel),
    mm_r_iconst X (show decode cX4_holds 94 = .ok (.iconst 2, 1) by decide +kernel) rfl,
    mm_r_ne2 X (show decode cX4_holds 95 = .ok (.if_icmp .ne 7, 3) by decide +kernel) (by decide),
    mm_r_iconst X (show decode cX4_holds 98 = .ok (.iconst 1, 1) by decide +kernel) rfl,
    mm_r_goto X (show decode cX4_holds 99 = .ok (.goto 4, 3) by decide +kernel) (by decide),
    mm_r_iconst X (show decode cX4_holds 102 = .ok (.iconst 0, 1) by decide +kernel) rfl,
    mm_r_zret X hret (show decode cX4_holds 103 = .ok (.ireturn, 1) by decide +kernel), trivial⟩
theorem sn_X4_holds {l : Launch} (hl : l.stackTraces = false) {g : mm_F} {fr lo : Nat} (hg : mm_Snd l yX4_holds (.code yX4_holds cX4_holds 5 (some .boolean)) fr lo g) (h30 : 40 ≤ fr ∧ 2000 ≤ lo) : mm_Snd l yX4_holds (.code yX4_holds cX4_holds 5 (some .boolean)) (fr + 3) (lo + 73) (mm_do (mm_pr (tb_X4_holds g)) 5) := mm_met hl (plainFor_of_name (by decide +kernel)) (ok_X4_holds hl hg h30)
noncomputable def f_X4_holds : Nat → mm_F
  | 0 => fun _ _ => none
  | d + 1 => mm_do (mm_pr (tb_X4_holds (f_X4_holds d))) 5
theorem sn_X4_holds_all {l : Launch} (hl : l.stackTraces = false) : ∀ d : Nat, mm_Snd l yX4_holds (.code yX4_holds cX4_holds 5 (some .boolean)) (40 + 3 * d) (2000 + 73 * d) (f_X4_holds d)
  | 0 => ⟨fun _ _ _ h => (by cases h), fun _ _ _ _ _ _ _ h => (by cases h)⟩
  | d + 1 => by
    have := sn_X4_holds hl (sn_X4_holds_all hl d) ⟨by omega, by omega⟩
    rw [show 40 + 3 * (d + 1) = 40 + 3 * d + 3 by omega, show 2000 + 73 * (d + 1) = 2000 + 73 * d + 73 by omega]
    exact this
theorem mo_X4_holds_all : ∀ d : Nat, mm_Mo (f_X4_holds d)
  | 0 => fun _ _ _ h => (by cases h)
  | d + 1 => mo_X4_holds (mo_X4_holds_all d)
theorem sn_X4_holds_top {l : Launch} (hl : l.stackTraces = false) : mm_Snd l yX4_holds (.code yX4_holds cX4_holds 5 (some .boolean)) 73 2803 (f_X4_holds 11) := sn_X4_holds_all hl 11
theorem mo_X4_holds_top : mm_Mo (f_X4_holds 11) := mo_X4_holds_all 11
theorem mo_X4_hasAnswer_top : mm_Mo (f_X4_hasAnswer (f_X4_holds 10)) := mo_X4_hasAnswer (mo_X4_holds_all 10)
theorem sn_X4_hasAnswer_top {l : Launch} (hl : l.stackTraces = false) : mm_Snd l yX4_hasAnswer (.code yX4_hasAnswer cX4_hasAnswer 6 (some .boolean)) 71 2754 (f_X4_hasAnswer (f_X4_holds 10)) := sn_X4_hasAnswer hl (sn_X4_holds_all hl 10) ⟨by omega, by omega⟩
theorem mo_X4_hasAnswers_top : mm_Mo (f_X4_hasAnswers (f_X4_holds 10)) := mo_X4_hasAnswers (mo_X4_holds_all 10)
theorem sn_X4_hasAnswers_top {l : Launch} (hl : l.stackTraces = false) : mm_Snd l yX4_hasAnswers (.code yX4_hasAnswers cX4_hasAnswers 5 (some .boolean)) 72 2779 (f_X4_hasAnswers (f_X4_holds 10)) := sn_X4_hasAnswers hl (sn_X4_holds_all hl 10) ⟨by omega, by omega⟩
/-! Linkcourt$Links.carrierOf(JJII)J -/
noncomputable def tb_X4_carrierOf : List (Nat × mm_I) := [(0, mm_ldR 1 0), (1, mm_ldJ 2 1), (2, mm_pfJ 5 4 4), (5, mm_ldR 6 0), (6, mm_ldI 8 5), (8, mm_pfI 11 4 5), (11, mm_ldR 12 0), (12, mm_ldI 14 6), (14, mm_pfI 17 4 6), (17, mm_ldR 18 0), (18, mm_gfR 21 4 1), (21, mm_ldJ 22 3), (22, mm_clV 25 2 1 f_X2_take), (25, mm_ldR 26 0), (26, mm_gfR 29 4 2), (29, mm_k 30 (.int 0)), (30, mm_clS 33 2 f_J7_fill_031fb), (33, mm_ldR 34 0), (34, mm_gfR 37 4 3), (37, mm_k 38 (.int 0)), (38, mm_clS 41 2 f_J7_fill_031fb), (41, mm_ldR 42 0), (42, mm_gfR 45 4 1), (45, mm_clV 48 2 0 f_X2_full), (48, mm_stI 50 7), (50, mm_ldR 51 0), (51, mm_k 52 (.int 0)), (52, mm_ldI 54 7), (54, mm_k 55 (.int 0)), (55, mm_clV 58 4 3 (f_X4_holds 11)), (58, mm_ne1 65 61), (61, mm_k 64 (.long (-1))), (64, mm_rtJ), (65, mm_k 66 (.int 0)), (66, mm_stI 68 8), (68, mm_ldI 70 8), (70, mm_ldR 71 0), (71, mm_gfR 74 4 1), (74, mm_gfI 77 2 2), (77, mm_gt2 141 80), (80, mm_k 81 (.int 0)), (81, mm_stI 83 9), (83, mm_ldI 85 9), (85, mm_ldI 87 7), (87, mm_gt2 135 90), (90, mm_ldI 92 9), (92, mm_k 95 (.int 512)), (95, mm_ge2 135 98), (98, mm_ldI 100 9), (100, mm_clS 103 1 f_J6_bitCount_0f7a4), (103, mm_ldI 105 8), (105, mm_ne2 129 108), (108, mm_ldR 109 0), (109, mm_k 110 (.int 0)), (110, mm_ldI 112 9), (112, mm_k 113 (.int 0)), (113, mm_clV 116 4 3 (f_X4_holds 11)), (116, mm_eq1 129 119), (119, mm_ldR 120 0), (120, mm_gfR 123 4 1), (123, mm_ldI 125 9), (125, mm_clV 128 2 1 f_X2_spread), (128, mm_rtJ), (129, mm_inc 132 9 1), (132, mm_go 83), (135, mm_inc 138 8 1), (138, mm_go 68), (141, mm_k 144 (.long (-1))), (144, mm_rtJ)]
noncomputable def f_X4_carrierOf : mm_F := mm_do (mm_pr tb_X4_carrierOf) 10
theorem mn_X4_carrierOf : mm_alln tb_X4_carrierOf := ⟨mm_n_ldR _ _, mm_n_ldJ _ _, mm_n_pfJ _ _ _, mm_n_ldR _ _, mm_n_ldI _ _, mm_n_pfI _ _ _, mm_n_ldR _ _, mm_n_ldI _ _, mm_n_pfI _ _ _, mm_n_ldR _ _, mm_n_gfR _ _ _, mm_n_ldJ _ _, mm_n_clV _ _ _ (mo_X2_take), mm_n_ldR _ _, mm_n_gfR _ _ _, mm_n_k _ _, mm_n_clS _ _ (mo_J7_fill_031fb), mm_n_ldR _ _, mm_n_gfR _ _ _, mm_n_k _ _, mm_n_clS _ _ (mo_J7_fill_031fb), mm_n_ldR _ _, mm_n_gfR _ _ _, mm_n_clV _ _ _ (mo_X2_full), mm_n_stI _ _, mm_n_ldR _ _, mm_n_k _ _, mm_n_ldI _ _, mm_n_k _ _, mm_n_clV _ _ _ (mo_X4_holds_top), mm_n_ne1 _ _, mm_n_k _ _, mm_n_rtJ, mm_n_k _ _, mm_n_stI _ _, mm_n_ldI _ _, mm_n_ldR _ _, mm_n_gfR _ _ _, mm_n_gfI _ _ _, mm_n_gt2 _ _, mm_n_k _ _, mm_n_stI _ _, mm_n_ldI _ _, mm_n_ldI _ _, mm_n_gt2 _ _, mm_n_ldI _ _, mm_n_k _ _, mm_n_ge2 _ _, mm_n_ldI _ _, mm_n_clS _ _ (mo_J6_bitCount_0f7a4), mm_n_ldI _ _, mm_n_ne2 _ _, mm_n_ldR _ _, mm_n_k _ _, mm_n_ldI _ _, mm_n_k _ _, mm_n_clV _ _ _ (mo_X4_holds_top), mm_n_eq1 _ _, mm_n_ldR _ _, mm_n_gfR _ _ _, mm_n_ldI _ _, mm_n_clV _ _ _ (mo_X2_spread), mm_n_rtJ, mm_n_inc _ _ _, mm_n_go _, mm_n_inc _ _ _, mm_n_go _, mm_n_k _ _, mm_n_rtJ, trivial⟩
theorem mo_X4_carrierOf : mm_Mo f_X4_carrierOf := mm_do_mo (mm_alln_mem mn_X4_carrierOf)
set_option maxRecDepth 10000 in
theorem ok_X4_carrierOf {l : Launch} (hl : l.stackTraces = false) : mm_Ok l yX4_carrierOf cX4_carrierOf 10 (some .long) 74 2827 tb_X4_carrierOf := by
  refine ⟨mm_alln_mem mn_X4_carrierOf, fun p e cells slots s m args below meth c D tc A S ad Tg X hret hname htab hth => mm_allr_mem ?_⟩
  exact ⟨mm_r_aload_n X (show decode cX4_carrierOf 0 = .ok (.aload_n 0, 1) by decide +kernel) rfl,
    mm_r_lload_n X (show decode cX4_carrierOf 1 = .ok (.lload_n 1, 1) by decide +kernel) rfl,
    mm_r_pfJ X (ci := 4) (p := 4) (show mm_kd 4 4 = 1 by decide +kernel) rfl rfl (Nat.le_of_ble_eq_true rfl) (show decode cX4_carrierOf 2 = .ok (.putfield 29, 3) by decide +kernel) mw_300 rfl rfl,
    mm_r_aload_n X (show decode cX4_carrierOf 5 = .ok (.aload_n 0, 1) by decide +kernel) rfl,
    mm_r_iload X (show decode cX4_carrierOf 6 = .ok (.iload 5, 2) by decide +kernel),
    mm_r_pfI X (ci := 4) (p := 5) (show mm_kd 4 5 = 0 by decide +kernel) rfl rfl (Nat.le_of_ble_eq_true rfl) (show decode cX4_carrierOf 8 = .ok (.putfield 33, 3) by decide +kernel) mw_301 rfl rfl,
    mm_r_aload_n X (show decode cX4_carrierOf 11 = .ok (.aload_n 0, 1) by decide +kernel) rfl,
    mm_r_iload X (show decode cX4_carrierOf 12 = .ok (.iload 6, 2) by decide +kernel),
    mm_r_pfI X (ci := 4) (p := 6) (show mm_kd 4 6 = 0 by decide +kernel) rfl rfl (Nat.le_of_ble_eq_true rfl) (show decode cX4_carrierOf 14 = .ok (.putfield 37, 3) by decide +kernel) mw_302 rfl rfl,
    mm_r_aload_n X (show decode cX4_carrierOf 17 = .ok (.aload_n 0, 1) by decide +kernel) rfl,
    mm_r_gfR X (ci := 4) (p := 1) (show mm_kd 4 1 = 2 by decide +kernel) rfl (Nat.le_of_ble_eq_true rfl) (show decode cX4_carrierOf 18 = .ok (.getfield 12, 3) by decide +kernel) mw_297 rfl,
    mm_r_lload_n X (show decode cX4_carrierOf 21 = .ok (.lload_n 3, 1) by decide +kernel) rfl,
    mm_r_clV X hth (ci := 2) (na := 1) (sn_X2_take hl) rfl (show decode cX4_carrierOf 22 = .ok (.invokevirtual 40, 3) by decide +kernel) mw_803 mw_874 mw_801 mw_802 mw_49 hd_X2_take ⟨(Nat.le_of_ble_eq_true rfl), (Nat.le_of_ble_eq_true rfl)⟩,
    mm_r_aload_n X (show decode cX4_carrierOf 25 = .ok (.aload_n 0, 1) by decide +kernel) rfl,
    mm_r_gfR X (ci := 4) (p := 2) (show mm_kd 4 2 = 2 by decide +kernel) rfl (Nat.le_of_ble_eq_true rfl) (show decode cX4_carrierOf 26 = .ok (.getfield 18, 3) by decide +kernel) mw_298 rfl,
    mm_r_iconst X (show decode cX4_carrierOf 29 = .ok (.iconst 0, 1) by decide +kernel) rfl,
    mm_r_clS X hth (na := 2) (sn_J7_fill_031fb hl) (show decode cX4_carrierOf 30 = .ok (.invokestatic 44, 3) by decide +kernel) mw_807 mw_875 mw_806 mw_61 hd_J7_fill_031fb.2 ⟨(Nat.le_of_ble_eq_true rfl), (Nat.le_of_ble_eq_true rfl)⟩,
    mm_r_aload_n X (show decode cX4_carrierOf 33 = .ok (.aload_n 0, 1) by decide +kernel) rfl,
    mm_r_gfR X (ci := 4) (p := 3) (show mm_kd 4 3 = 2 by decide +kernel) rfl (Nat.le_of_ble_eq_true rfl) (show decode cX4_carrierOf 34 = .ok (.getfield 22, 3) by decide +kernel) mw_299 rfl,
    mm_r_iconst X (show decode cX4_carrierOf 37 = .ok (.iconst 0, 1) by decide +kernel) rfl,
    mm_r_clS X hth (na := 2) (sn_J7_fill_031fb hl) (show decode cX4_carrierOf 38 = .ok (.invokestatic 44, 3) by decide +kernel) mw_807 mw_875 mw_806 mw_61 hd_J7_fill_031fb.2 ⟨(Nat.le_of_ble_eq_true rfl), (Nat.le_of_ble_eq_true rfl)⟩,
    mm_r_aload_n X (show decode cX4_carrierOf 41 = .ok (.aload_n 0, 1) by decide +kernel) rfl,
    mm_r_gfR X (ci := 4) (p := 1) (show mm_kd 4 1 = 2 by decide +kernel) rfl (Nat.le_of_ble_eq_true rfl) (show decode cX4_carrierOf 42 = .ok (.getfield 12, 3) by decide +kernel) mw_297 rfl,
    mm_r_clV X hth (ci := 2) (na := 0) (sn_X2_full hl) rfl (show decode cX4_carrierOf 45 = .ok (.invokevirtual 50, 3) by decide +kernel) mw_832 mw_876 mw_830 mw_831 mw_49 hd_X2_full ⟨(Nat.le_of_ble_eq_true rfl), (Nat.le_of_ble_eq_true rfl)⟩,
    mm_r_istore X (show decode cX4_carrierOf 48 = .ok (.istore 7, 2) by decide +kernel) (Nat.le_of_ble_eq_true rfl),
    mm_r_aload_n X (show decode cX4_carrierOf 50 = .ok (.aload_n 0, 1) by decide +kernel) rfl,
    mm_r_iconst X (show decode cX4_carrierOf 51 = .ok (.iconst 0, 1) by decide +kernel) rfl,
    mm_r_iload X (show decode cX4_carrierOf 52 = .ok (.iload 7, 2) by decide +kernel),
    mm_r_iconst X (show decode cX4_carrierOf 54 = .ok (.iconst 0, 1) by decide +kernel) rfl,
    mm_r_clV X hth (ci := 4) (na := 3) (sn_X4_holds_top hl) rfl (show decode cX4_carrierOf 55 = .ok (.invokevirtual 54, 3) by decide +kernel) mw_880 mw_877 mw_879 mw_21 mw_50 hd_X4_holds ⟨(Nat.le_of_ble_eq_true rfl), (Nat.le_of_ble_eq_true rfl)⟩,
    mm_r_ne1 X (show decode cX4_carrierOf 58 = .ok (.ifCond .ne 7, 3) by decide +kernel) (by decide),
    mm_r_ldc2 X (show decode cX4_carrierOf 61 = .ok (.ldc2_w 58, 3) by decide +kernel) mw_902,
    mm_r_lret X hret (show decode cX4_carrierOf 64 = .ok (.lreturn, 1) by decide +kernel),
    mm_r_iconst X (show decode cX4_carrierOf 65 = .ok (.iconst 0, 1) by decide +kernel) rfl,
    mm_r_istore X (show decode cX4_carrierOf 66 = .ok (.istore 8, 2) by decide +kernel) (Nat.le_of_ble_eq_true rfl),
    mm_r_iload X (show decode cX4_carrierOf 68 = .ok (.iload 8, 2) by decide +kernel),
    mm_r_aload_n X (show decode cX4_carrierOf 70 = .ok (.aload_n 0, 1) by decide +kernel) rfl,
    mm_r_gfR X (ci := 4) (p := 1) (show mm_kd 4 1 = 2 by decide +kernel) rfl (Nat.le_of_ble_eq_true rfl) (show decode cX4_carrierOf 71 = .ok (.getfield 12, 3) by decide +kernel) mw_297 rfl,
    mm_r_gfI X (ci := 2) (p := 2) (show mm_kd 2 2 = 0 by decide +kernel) rfl (Nat.le_of_ble_eq_true rfl) (show decode cX4_carrierOf 74 = .ok (.getfield 60, 3) by decide +kernel) mw_253 rfl,
    mm_r_gt2 X (show decode cX4_carrierOf 77 = .ok (.if_icmp .gt 64, 3) by decide +kernel) (by decide),
    mm_r_iconst X (show decode cX4_carrierOf 80 = .ok (.iconst 0, 1) by decide +kernel) rfl,
    mm_r_istore X (show decode cX4_carrierOf 81 = .ok (.istore 9, 2) by decide +kernel) (Nat.le_of_ble_eq_true rfl),
    mm_r_iload X (show decode cX4_carrierOf 83 = .ok (.iload 9, 2) by decide +kernel),
    mm_r_iload X (show decode cX4_carrierOf 85 = .ok (.iload 7, 2) by decide +kernel),
    mm_r_gt2 X (show decode cX4_carrierOf 87 = .ok (.if_icmp .gt 48, 3) by decide +kernel) (by decide),
    mm_r_iload X (show decode cX4_carrierOf 90 = .ok (.iload 9, 2) by decide +kernel),
    mm_r_sipush X (show decode cX4_carrierOf 92 = .ok (.sipush 512, 3) by decide +kernel) rfl,
    mm_r_ge2 X (show decode cX4_carrierOf 95 = .ok (.if_icmp .ge 40, 3) by decide +kernel) (by decide),
    mm_r_iload X (show decode cX4_carrierOf 98 = .ok (.iload 9, 2) by decide +kernel),
    mm_r_clS X hth (na := 1) (sn_J6_bitCount_0f7a4 hl) (show decode cX4_carrierOf 100 = .ok (.invokestatic 63, 3) by decide +kernel) mw_905 mw_903 mw_904 mw_64 hd_J6_bitCount_0f7a4.2 ⟨(Nat.le_of_ble_eq_true rfl), (Nat.le_of_ble_eq_true rfl)⟩,
    mm_r_iload X (show decode cX4_carrierOf 103 = .ok (.iload 8, 2) by decide +kernel),
    mm_r_ne2 X (show decode cX4_carrierOf 105 = .ok (.if_icmp .ne 24, 3) by decide +kernel) (by decide),
    mm_r_aload_n X (show decode cX4_carrierOf 108 = .ok (.aload_n 0, 1) by decide +kernel) rfl,
    mm_r_iconst X (show decode cX4_carrierOf 109 = .ok (.iconst 0, 1) by decide +kernel) rfl,
    mm_r_iload X (show decode cX4_carrierOf 110 = .ok (.iload 9, 2) by decide +kernel),
    mm_r_iconst X (show decode cX4_carrierOf 112 = .ok (.iconst 0, 1) by decide +kernel) rfl,
    mm_r_clV X hth (ci := 4) (na := 3) (sn_X4_holds_top hl) rfl (show decode cX4_carrierOf 113 = .ok (.invokevirtual 54, 3) by decide +kernel) mw_880 mw_877 mw_879 mw_21 mw_50 hd_X4_holds ⟨(Nat.le_of_ble_eq_true rfl), (Nat.le_of_ble_eq_true rfl)⟩,
    mm_r_eq1 X (show decode cX4_carrierOf 116 = .ok (.ifCond .eq 13, 3) by decide +kernel) (by decide),
    mm_r_aload_n X (show decode cX4_carrierOf 119 = .ok (.aload_n 0, 1) by decide +kernel) rfl,
    mm_r_gfR X (ci := 4) (p := 1) (show mm_kd 4 1 = 2 by decide +kernel) rfl (Nat.le_of_ble_eq_true rfl) (show decode cX4_carrierOf 120 = .ok (.getfield 12, 3) by decide +kernel) mw_297 rfl,
    mm_r_iload X (show decode cX4_carrierOf 123 = .ok (.iload 9, 2) by decide +kernel),
    mm_r_clV X hth (ci := 2) (na := 1) (sn_X2_spread hl) rfl (show decode cX4_carrierOf 125 = .ok (.invokevirtual 69, 3) by decide +kernel) mw_819 mw_885 mw_817 mw_818 mw_49 hd_X2_spread ⟨(Nat.le_of_ble_eq_true rfl), (Nat.le_of_ble_eq_true rfl)⟩,
    mm_r_lret X hret (show decode cX4_carrierOf 128 = .ok (.lreturn, 1) by decide +kernel),
    mm_r_iinc X (show decode cX4_carrierOf 129 = .ok (.iinc 9 1, 3) by decide +kernel) rfl (Nat.le_of_ble_eq_true rfl),
    mm_r_goto X (show decode cX4_carrierOf 132 = .ok (.goto (-49), 3) by decide +kernel) (by decide),
    mm_r_iinc X (show decode cX4_carrierOf 135 = .ok (.iinc 8 1, 3) by decide +kernel) rfl (Nat.le_of_ble_eq_true rfl),
    mm_r_goto X (show decode cX4_carrierOf 138 = .ok (.goto (-70), 3) by decide +kernel) (by decide),
    mm_r_ldc2 X (show decode cX4_carrierOf 141 = .ok (.ldc2_w 58, 3) by decide +kernel) mw_902,
    mm_r_lret X hret (show decode cX4_carrierOf 144 = .ok (.lreturn, 1) by decide +kernel), trivial⟩
theorem sn_X4_carrierOf {l : Launch} (hl : l.stackTraces = false) : mm_Snd l yX4_carrierOf (.code yX4_carrierOf cX4_carrierOf 10 (some .long)) 74 2827 f_X4_carrierOf := mm_met hl (plainFor_of_name (by decide +kernel)) (ok_X4_carrierOf hl)
/-! Linkcourt.carrier(III)J -/
noncomputable def tb_X10_carrier : List (Nat × mm_I) := [(0, mm_ldR 1 0), (1, mm_ldI 2 1), (2, mm_ldI 3 2), (3, mm_ldI 4 3), (4, mm_clV 7 10 3 f_X10_needLink), (7, mm_ldR 8 0), (8, mm_gfR 11 10 3), (11, mm_ldR 12 0), (12, mm_gfR 15 10 1), (15, mm_ldI 16 1), (16, mm_clV 19 6 1 f_X6_stones), (19, mm_ldR 20 0), (20, mm_gfR 23 10 1), (23, mm_clV 26 6 0 f_X6_empty), (26, mm_ldI 27 2), (27, mm_ldI 28 3), (28, mm_clV 31 4 4 f_X4_carrierOf), (31, mm_rtJ)]
noncomputable def f_X10_carrier : mm_F := mm_do (mm_pr tb_X10_carrier) 4
theorem mn_X10_carrier : mm_alln tb_X10_carrier := ⟨mm_n_ldR _ _, mm_n_ldI _ _, mm_n_ldI _ _, mm_n_ldI _ _, mm_n_clV _ _ _ (mo_X10_needLink), mm_n_ldR _ _, mm_n_gfR _ _ _, mm_n_ldR _ _, mm_n_gfR _ _ _, mm_n_ldI _ _, mm_n_clV _ _ _ (mo_X6_stones), mm_n_ldR _ _, mm_n_gfR _ _ _, mm_n_clV _ _ _ (mo_X6_empty), mm_n_ldI _ _, mm_n_ldI _ _, mm_n_clV _ _ _ (mo_X4_carrierOf), mm_n_rtJ, trivial⟩
theorem mo_X10_carrier : mm_Mo f_X10_carrier := mm_do_mo (mm_alln_mem mn_X10_carrier)
set_option maxRecDepth 10000 in
theorem ok_X10_carrier {l : Launch} (hl : l.stackTraces = false) : mm_Ok l yX10_carrier cX10_carrier 4 (some .long) 75 2856 tb_X10_carrier := by
  refine ⟨mm_alln_mem mn_X10_carrier, fun p e cells slots s m args below meth c D tc A S ad Tg X hret hname htab hth => mm_allr_mem ?_⟩
  exact ⟨mm_r_aload_n X (show decode cX10_carrier 0 = .ok (.aload_n 0, 1) by decide +kernel) rfl,
    mm_r_iload_n X (show decode cX10_carrier 1 = .ok (.iload_n 1, 1) by decide +kernel) rfl,
    mm_r_iload_n X (show decode cX10_carrier 2 = .ok (.iload_n 2, 1) by decide +kernel) rfl,
    mm_r_iload_n X (show decode cX10_carrier 3 = .ok (.iload_n 3, 1) by decide +kernel) rfl,
    mm_r_clV X hth (ci := 10) (na := 3) (sn_X10_needLink hl) rfl (show decode cX10_carrier 4 = .ok (.invokevirtual 231, 3) by decide +kernel) mw_859 mw_856 mw_858 mw_19 mw_44 hd_X10_needLink ⟨(Nat.le_of_ble_eq_true rfl), (Nat.le_of_ble_eq_true rfl)⟩,
    mm_r_aload_n X (show decode cX10_carrier 7 = .ok (.aload_n 0, 1) by decide +kernel) rfl,
    mm_r_gfR X (ci := 10) (p := 3) (show mm_kd 10 3 = 2 by decide +kernel) rfl (Nat.le_of_ble_eq_true rfl) (show decode cX10_carrier 8 = .ok (.getfield 42, 3) by decide +kernel) mw_431 rfl,
    mm_r_aload_n X (show decode cX10_carrier 11 = .ok (.aload_n 0, 1) by decide +kernel) rfl,
    mm_r_gfR X (ci := 10) (p := 1) (show mm_kd 10 1 = 2 by decide +kernel) rfl (Nat.le_of_ble_eq_true rfl) (show decode cX10_carrier 12 = .ok (.getfield 28, 3) by decide +kernel) mw_429 rfl,
    mm_r_iload_n X (show decode cX10_carrier 15 = .ok (.iload_n 1, 1) by decide +kernel) rfl,
    mm_r_clV X hth (ci := 6) (na := 1) (sn_X6_stones hl) rfl (show decode cX10_carrier 16 = .ok (.invokevirtual 194, 3) by decide +kernel) mw_601 mw_598 mw_599 mw_600 mw_46 hd_X6_stones ⟨(Nat.le_of_ble_eq_true rfl), (Nat.le_of_ble_eq_true rfl)⟩,
    mm_r_aload_n X (show decode cX10_carrier 19 = .ok (.aload_n 0, 1) by decide +kernel) rfl,
    mm_r_gfR X (ci := 10) (p := 1) (show mm_kd 10 1 = 2 by decide +kernel) rfl (Nat.le_of_ble_eq_true rfl) (show decode cX10_carrier 20 = .ok (.getfield 28, 3) by decide +kernel) mw_429 rfl,
    mm_r_clV X hth (ci := 6) (na := 0) (sn_X6_empty hl) rfl (show decode cX10_carrier 23 = .ok (.invokevirtual 115, 3) by decide +kernel) mw_483 mw_480 mw_481 mw_482 mw_46 hd_X6_empty ⟨(Nat.le_of_ble_eq_true rfl), (Nat.le_of_ble_eq_true rfl)⟩,
    mm_r_iload_n X (show decode cX10_carrier 26 = .ok (.iload_n 2, 1) by decide +kernel) rfl,
    mm_r_iload_n X (show decode cX10_carrier 27 = .ok (.iload_n 3, 1) by decide +kernel) rfl,
    mm_r_clV X hth (ci := 4) (na := 4) (sn_X4_carrierOf hl) rfl (show decode cX10_carrier 28 = .ok (.invokevirtual 234, 3) by decide +kernel) mw_873 mw_870 mw_871 mw_872 mw_50 hd_X4_carrierOf ⟨(Nat.le_of_ble_eq_true rfl), (Nat.le_of_ble_eq_true rfl)⟩,
    mm_r_lret X hret (show decode cX10_carrier 31 = .ok (.lreturn, 1) by decide +kernel), trivial⟩
theorem sn_X10_carrier {l : Launch} (hl : l.stackTraces = false) : mm_Snd l yX10_carrier (.code yX10_carrier cX10_carrier 4 (some .long)) 75 2856 f_X10_carrier := mm_met hl (plainFor_of_name (by decide +kernel)) (ok_X10_carrier hl)
/-! Linkcourt$Gaps.gather(J)I -/
noncomputable def tb_X2_gather : List (Nat × mm_I) := [(0, mm_k 1 (.int 0)), (1, mm_stI 2 3), (2, mm_k 3 (.int 0)), (3, mm_stI 5 4), (5, mm_ldI 7 4), (7, mm_ldR 8 0), (8, mm_gfI 11 2 2), (11, mm_ge2 52 14), (14, mm_ldI 16 4), (16, mm_k 18 (.int 9)), (18, mm_ge2 52 21), (21, mm_ldI 22 3), (22, mm_ldJ 23 1), (23, mm_ldR 24 0), (24, mm_gfR 27 2 0), (27, mm_ldI 29 4), (29, mm_ald 30 0), (30, mm_clS 33 2 f_X10_has), (33, mm_eq1 43 36), (36, mm_k 37 (.int 1)), (37, mm_ldI 39 4), (39, mm_i2 40 (fun a b => a <<< (b &&& 31))), (40, mm_go 44), (43, mm_k 44 (.int 0)), (44, mm_i2 45 (fun a b => a ||| b)), (45, mm_stI 46 3), (46, mm_inc 49 4 1), (49, mm_go 5), (52, mm_ldI 53 3), (53, mm_rtI)]
noncomputable def f_X2_gather : mm_F := mm_do (mm_pr tb_X2_gather) 5
theorem mn_X2_gather : mm_alln tb_X2_gather := ⟨mm_n_k _ _, mm_n_stI _ _, mm_n_k _ _, mm_n_stI _ _, mm_n_ldI _ _, mm_n_ldR _ _, mm_n_gfI _ _ _, mm_n_ge2 _ _, mm_n_ldI _ _, mm_n_k _ _, mm_n_ge2 _ _, mm_n_ldI _ _, mm_n_ldJ _ _, mm_n_ldR _ _, mm_n_gfR _ _ _, mm_n_ldI _ _, mm_n_ald _ _, mm_n_clS _ _ (mo_X10_has), mm_n_eq1 _ _, mm_n_k _ _, mm_n_ldI _ _, mm_n_i2 _ _, mm_n_go _, mm_n_k _ _, mm_n_i2 _ _, mm_n_stI _ _, mm_n_inc _ _ _, mm_n_go _, mm_n_ldI _ _, mm_n_rtI, trivial⟩
theorem mo_X2_gather : mm_Mo f_X2_gather := mm_do_mo (mm_alln_mem mn_X2_gather)
set_option maxRecDepth 10000 in
theorem ok_X2_gather {l : Launch} (hl : l.stackTraces = false) : mm_Ok l yX2_gather cX2_gather 5 (some .int) 2 42 tb_X2_gather := by
  refine ⟨mm_alln_mem mn_X2_gather, fun p e cells slots s m args below meth c D tc A S ad Tg X hret hname htab hth => mm_allr_mem ?_⟩
  exact ⟨mm_r_iconst X (show decode cX2_gather 0 = .ok (.iconst 0, 1) by decide +kernel) rfl,
    mm_r_istore_n X (show decode cX2_gather 1 = .ok (.istore_n 3, 1) by decide +kernel) rfl (Nat.le_of_ble_eq_true rfl),
    mm_r_iconst X (show decode cX2_gather 2 = .ok (.iconst 0, 1) by decide +kernel) rfl,
    mm_r_istore X (show decode cX2_gather 3 = .ok (.istore 4, 2) by decide +kernel) (Nat.le_of_ble_eq_true rfl),
    mm_r_iload X (show decode cX2_gather 5 = .ok (.iload 4, 2) by decide +kernel),
    mm_r_aload_n X (show decode cX2_gather 7 = .ok (.aload_n 0, 1) by decide +kernel) rfl,
    mm_r_gfI X (ci := 2) (p := 2) (show mm_kd 2 2 = 0 by decide +kernel) rfl (Nat.le_of_ble_eq_true rfl) (show decode cX2_gather 8 = .ok (.getfield 18, 3) by decide +kernel) mw_252 rfl,
    mm_r_ge2 X (show decode cX2_gather 11 = .ok (.if_icmp .ge 41, 3) by decide +kernel) (by decide),
    mm_r_iload X (show decode cX2_gather 14 = .ok (.iload 4, 2) by decide +kernel),
    mm_r_bipush X (show decode cX2_gather 16 = .ok (.bipush 9, 2) by decide +kernel) rfl,
    mm_r_ge2 X (show decode cX2_gather 18 = .ok (.if_icmp .ge 34, 3) by decide +kernel) (by decide),
    mm_r_iload_n X (show decode cX2_gather 21 = .ok (.iload_n 3, 1) by decide +kernel) rfl,
    mm_r_lload_n X (show decode cX2_gather 22 = .ok (.lload_n 1, 1) by decide +kernel) rfl,
    mm_r_aload_n X (show decode cX2_gather 23 = .ok (.aload_n 0, 1) by decide +kernel) rfl,
    mm_r_gfR X (ci := 2) (p := 0) (show mm_kd 2 0 = 2 by decide +kernel) rfl (Nat.le_of_ble_eq_true rfl) (show decode cX2_gather 24 = .ok (.getfield 9, 3) by decide +kernel) mw_250 rfl,
    mm_r_iload X (show decode cX2_gather 27 = .ok (.iload 4, 2) by decide +kernel),
    mm_r_iald X (show decode cX2_gather 29 = .ok (.iaload, 1) by decide +kernel),
    mm_r_clSN X hth (na := 2) (sn_X10_has hl) (show decode cX2_gather 30 = .ok (.invokestatic 22, 3) by decide +kernel) mw_593 (show ("Linkcourt$Gaps", 22, yX10_has) ∈ mm_nest by decide +kernel) mw_592 mw_44 hd_X10_has.2 ⟨(Nat.le_of_ble_eq_true rfl), (Nat.le_of_ble_eq_true rfl)⟩,
    mm_r_eq1 X (show decode cX2_gather 33 = .ok (.ifCond .eq 10, 3) by decide +kernel) (by decide),
    mm_r_iconst X (show decode cX2_gather 36 = .ok (.iconst 1, 1) by decide +kernel) rfl,
    mm_r_iload X (show decode cX2_gather 37 = .ok (.iload 4, 2) by decide +kernel),
    mm_r_ishl X (show decode cX2_gather 39 = .ok (.ishl, 1) by decide +kernel),
    mm_r_goto X (show decode cX2_gather 40 = .ok (.goto 4, 3) by decide +kernel) (by decide),
    mm_r_iconst X (show decode cX2_gather 43 = .ok (.iconst 0, 1) by decide +kernel) rfl,
    mm_r_ior X (show decode cX2_gather 44 = .ok (.ior, 1) by decide +kernel),
    mm_r_istore_n X (show decode cX2_gather 45 = .ok (.istore_n 3, 1) by decide +kernel) rfl (Nat.le_of_ble_eq_true rfl),
    mm_r_iinc X (show decode cX2_gather 46 = .ok (.iinc 4 1, 3) by decide +kernel) rfl (Nat.le_of_ble_eq_true rfl),
    mm_r_goto X (show decode cX2_gather 49 = .ok (.goto (-44), 3) by decide +kernel) (by decide),
    mm_r_iload_n X (show decode cX2_gather 52 = .ok (.iload_n 3, 1) by decide +kernel) rfl,
    mm_r_iret X hret (show decode cX2_gather 53 = .ok (.ireturn, 1) by decide +kernel), trivial⟩
theorem sn_X2_gather {l : Launch} (hl : l.stackTraces = false) : mm_Snd l yX2_gather (.code yX2_gather cX2_gather 5 (some .int)) 2 42 f_X2_gather := mm_met hl (plainFor_of_name (by decide +kernel)) (ok_X2_gather hl)
/-! Linkcourt$Gaps.cellAt(I)I -/
noncomputable def tb_X2_cellAt : List (Nat × mm_I) := [(0, mm_ldI 1 1), (1, mm_lt1 27 4), (4, mm_ldI 5 1), (5, mm_ldR 6 0), (6, mm_gfI 9 2 2), (9, mm_ge2 27 12), (12, mm_ldI 13 1), (13, mm_k 15 (.int 9)), (15, mm_ge2 27 18), (18, mm_ldR 19 0), (19, mm_gfR 22 2 0), (22, mm_ldI 23 1), (23, mm_ald 24 0), (24, mm_go 28), (27, mm_k 28 (.int (-1))), (28, mm_rtI)]
noncomputable def f_X2_cellAt : mm_F := mm_do (mm_pr tb_X2_cellAt) 2
theorem mn_X2_cellAt : mm_alln tb_X2_cellAt := ⟨mm_n_ldI _ _, mm_n_lt1 _ _, mm_n_ldI _ _, mm_n_ldR _ _, mm_n_gfI _ _ _, mm_n_ge2 _ _, mm_n_ldI _ _, mm_n_k _ _, mm_n_ge2 _ _, mm_n_ldR _ _, mm_n_gfR _ _ _, mm_n_ldI _ _, mm_n_ald _ _, mm_n_go _, mm_n_k _ _, mm_n_rtI, trivial⟩
theorem mo_X2_cellAt : mm_Mo f_X2_cellAt := mm_do_mo (mm_alln_mem mn_X2_cellAt)
set_option maxRecDepth 10000 in
theorem ok_X2_cellAt {l : Launch} (hl : l.stackTraces = false) : mm_Ok l yX2_cellAt cX2_cellAt 2 (some .int) 1 20 tb_X2_cellAt := by
  refine ⟨mm_alln_mem mn_X2_cellAt, fun p e cells slots s m args below meth c D tc A S ad Tg X hret hname htab hth => mm_allr_mem ?_⟩
  exact ⟨mm_r_iload_n X (show decode cX2_cellAt 0 = .ok (.iload_n 1, 1) by decide +kernel) rfl,
    mm_r_lt1 X (show decode cX2_cellAt 1 = .ok (.ifCond .lt 26, 3) by decide +kernel) (by decide),
    mm_r_iload_n X (show decode cX2_cellAt 4 = .ok (.iload_n 1, 1) by decide +kernel) rfl,
    mm_r_aload_n X (show decode cX2_cellAt 5 = .ok (.aload_n 0, 1) by decide +kernel) rfl,
    mm_r_gfI X (ci := 2) (p := 2) (show mm_kd 2 2 = 0 by decide +kernel) rfl (Nat.le_of_ble_eq_true rfl) (show decode cX2_cellAt 6 = .ok (.getfield 18, 3) by decide +kernel) mw_252 rfl,
    mm_r_ge2 X (show decode cX2_cellAt 9 = .ok (.if_icmp .ge 18, 3) by decide +kernel) (by decide),
    mm_r_iload_n X (show decode cX2_cellAt 12 = .ok (.iload_n 1, 1) by decide +kernel) rfl,
    mm_r_bipush X (show decode cX2_cellAt 13 = .ok (.bipush 9, 2) by decide +kernel) rfl,
    mm_r_ge2 X (show decode cX2_cellAt 15 = .ok (.if_icmp .ge 12, 3) by decide +kernel) (by decide),
    mm_r_aload_n X (show decode cX2_cellAt 18 = .ok (.aload_n 0, 1) by decide +kernel) rfl,
    mm_r_gfR X (ci := 2) (p := 0) (show mm_kd 2 0 = 2 by decide +kernel) rfl (Nat.le_of_ble_eq_true rfl) (show decode cX2_cellAt 19 = .ok (.getfield 9, 3) by decide +kernel) mw_250 rfl,
    mm_r_iload_n X (show decode cX2_cellAt 22 = .ok (.iload_n 1, 1) by decide +kernel) rfl,
    mm_r_iald X (show decode cX2_cellAt 23 = .ok (.iaload, 1) by decide +kernel),
    mm_r_goto X (show decode cX2_cellAt 24 = .ok (.goto 4, 3) by decide +kernel) (by decide),
    mm_r_iconst X (show decode cX2_cellAt 27 = .ok (.iconst (-1), 1) by decide +kernel) rfl,
    mm_r_iret X hret (show decode cX2_cellAt 28 = .ok (.ireturn, 1) by decide +kernel), trivial⟩
theorem sn_X2_cellAt {l : Launch} (hl : l.stackTraces = false) : mm_Snd l yX2_cellAt (.code yX2_cellAt cX2_cellAt 2 (some .int)) 1 20 f_X2_cellAt := mm_met hl (plainFor_of_name (by decide +kernel)) (ok_X2_cellAt hl)
/-! Linkcourt$Links.answerIn(JI)I -/
noncomputable def tb_X4_answerIn : List (Nat × mm_I) := [(0, mm_ldR 1 0), (1, mm_gfR 4 4 1), (4, mm_ldJ 5 1), (5, mm_k 6 (.long 1)), (6, mm_ldI 7 3), (7, mm_ls 8 (fun a b => a <<< (b.toInt64 &&& 63))), (8, mm_k 11 (.long (-1))), (11, mm_l2 12 (fun a b => a ^^^ b)), (12, mm_l2 13 (fun a b => a &&& b)), (13, mm_clV 16 2 1 f_X2_gather), (16, mm_stI 18 4), (18, mm_k 19 (.int 0)), (19, mm_stI 21 5), (21, mm_ldI 23 5), (23, mm_ldR 24 0), (24, mm_gfR 27 4 1), (27, mm_gfI 30 2 2), (30, mm_ge2 81 33), (33, mm_ldI 35 4), (35, mm_il 36 (fun a => a.toInt64)), (36, mm_ldI 38 5), (38, mm_clS 41 2 f_X10_has), (41, mm_eq1 75 44), (44, mm_ldR 45 0), (45, mm_k 46 (.int 1)), (46, mm_ldI 48 5), (48, mm_i2 49 (fun a b => a <<< (b &&& 31))), (49, mm_ldI 51 4), (51, mm_k 52 (.int 1)), (52, mm_ldI 54 5), (54, mm_i2 55 (fun a b => a <<< (b &&& 31))), (55, mm_k 56 (.int (-1))), (56, mm_i2 57 (fun a b => a ^^^ b)), (57, mm_i2 58 (fun a b => a &&& b)), (58, mm_k 59 (.int 0)), (59, mm_clV 62 4 3 (f_X4_holds 11)), (62, mm_eq1 75 65), (65, mm_ldR 66 0), (66, mm_gfR 69 4 1), (69, mm_ldI 71 5), (71, mm_clV 74 2 1 f_X2_cellAt), (74, mm_rtI), (75, mm_inc 78 5 1), (78, mm_go 21), (81, mm_k 82 (.int (-1))), (82, mm_rtI)]
noncomputable def f_X4_answerIn : mm_F := mm_do (mm_pr tb_X4_answerIn) 6
theorem mn_X4_answerIn : mm_alln tb_X4_answerIn := ⟨mm_n_ldR _ _, mm_n_gfR _ _ _, mm_n_ldJ _ _, mm_n_k _ _, mm_n_ldI _ _, mm_n_ls _ _, mm_n_k _ _, mm_n_l2 _ _, mm_n_l2 _ _, mm_n_clV _ _ _ (mo_X2_gather), mm_n_stI _ _, mm_n_k _ _, mm_n_stI _ _, mm_n_ldI _ _, mm_n_ldR _ _, mm_n_gfR _ _ _, mm_n_gfI _ _ _, mm_n_ge2 _ _, mm_n_ldI _ _, mm_n_il _ _, mm_n_ldI _ _, mm_n_clS _ _ (mo_X10_has), mm_n_eq1 _ _, mm_n_ldR _ _, mm_n_k _ _, mm_n_ldI _ _, mm_n_i2 _ _, mm_n_ldI _ _, mm_n_k _ _, mm_n_ldI _ _, mm_n_i2 _ _, mm_n_k _ _, mm_n_i2 _ _, mm_n_i2 _ _, mm_n_k _ _, mm_n_clV _ _ _ (mo_X4_holds_top), mm_n_eq1 _ _, mm_n_ldR _ _, mm_n_gfR _ _ _, mm_n_ldI _ _, mm_n_clV _ _ _ (mo_X2_cellAt), mm_n_rtI, mm_n_inc _ _ _, mm_n_go _, mm_n_k _ _, mm_n_rtI, trivial⟩
theorem mo_X4_answerIn : mm_Mo f_X4_answerIn := mm_do_mo (mm_alln_mem mn_X4_answerIn)
set_option maxRecDepth 10000 in
theorem ok_X4_answerIn {l : Launch} (hl : l.stackTraces = false) : mm_Ok l yX4_answerIn cX4_answerIn 6 (some .int) 74 2827 tb_X4_answerIn := by
  refine ⟨mm_alln_mem mn_X4_answerIn, fun p e cells slots s m args below meth c D tc A S ad Tg X hret hname htab hth => mm_allr_mem ?_⟩
  exact ⟨mm_r_aload_n X (show decode cX4_answerIn 0 = .ok (.aload_n 0, 1) by decide +kernel) rfl,
    mm_r_gfR X (ci := 4) (p := 1) (show mm_kd 4 1 = 2 by decide +kernel) rfl (Nat.le_of_ble_eq_true rfl) (show decode cX4_answerIn 1 = .ok (.getfield 12, 3) by decide +kernel) mw_297 rfl,
    mm_r_lload_n X (show decode cX4_answerIn 4 = .ok (.lload_n 1, 1) by decide +kernel) rfl,
    mm_r_lconst X (show decode cX4_answerIn 5 = .ok (.lconst 1, 1) by decide +kernel) rfl,
    mm_r_iload_n X (show decode cX4_answerIn 6 = .ok (.iload_n 3, 1) by decide +kernel) rfl,
    mm_r_lshl X (show decode cX4_answerIn 7 = .ok (.lshl, 1) by decide +kernel),
    mm_r_ldc2 X (show decode cX4_answerIn 8 = .ok (.ldc2_w 58, 3) by decide +kernel) mw_902,
    mm_r_lxor X (show decode cX4_answerIn 11 = .ok (.lxor, 1) by decide +kernel),
    mm_r_land X (show decode cX4_answerIn 12 = .ok (.land, 1) by decide +kernel),
    mm_r_clV X hth (ci := 2) (na := 1) (sn_X2_gather hl) rfl (show decode cX4_answerIn 13 = .ok (.invokevirtual 73, 3) by decide +kernel) mw_917 mw_914 mw_915 mw_916 mw_49 hd_X2_gather ⟨(Nat.le_of_ble_eq_true rfl), (Nat.le_of_ble_eq_true rfl)⟩,
    mm_r_istore X (show decode cX4_answerIn 16 = .ok (.istore 4, 2) by decide +kernel) (Nat.le_of_ble_eq_true rfl),
    mm_r_iconst X (show decode cX4_answerIn 18 = .ok (.iconst 0, 1) by decide +kernel) rfl,
    mm_r_istore X (show decode cX4_answerIn 19 = .ok (.istore 5, 2) by decide +kernel) (Nat.le_of_ble_eq_true rfl),
    mm_r_iload X (show decode cX4_answerIn 21 = .ok (.iload 5, 2) by decide +kernel),
    mm_r_aload_n X (show decode cX4_answerIn 23 = .ok (.aload_n 0, 1) by decide +kernel) rfl,
    mm_r_gfR X (ci := 4) (p := 1) (show mm_kd 4 1 = 2 by decide +kernel) rfl (Nat.le_of_ble_eq_true rfl) (show decode cX4_answerIn 24 = .ok (.getfield 12, 3) by decide +kernel) mw_297 rfl,
    mm_r_gfI X (ci := 2) (p := 2) (show mm_kd 2 2 = 0 by decide +kernel) rfl (Nat.le_of_ble_eq_true rfl) (show decode cX4_answerIn 27 = .ok (.getfield 60, 3) by decide +kernel) mw_253 rfl,
    mm_r_ge2 X (show decode cX4_answerIn 30 = .ok (.if_icmp .ge 51, 3) by decide +kernel) (by decide),
    mm_r_iload X (show decode cX4_answerIn 33 = .ok (.iload 4, 2) by decide +kernel),
    mm_r_i2l X (show decode cX4_answerIn 35 = .ok (.i2l, 1) by decide +kernel),
    mm_r_iload X (show decode cX4_answerIn 36 = .ok (.iload 5, 2) by decide +kernel),
    mm_r_clSN X hth (na := 2) (sn_X10_has hl) (show decode cX4_answerIn 38 = .ok (.invokestatic 77, 3) by decide +kernel) mw_593 (show ("Linkcourt$Links", 77, yX10_has) ∈ mm_nest by decide +kernel) mw_592 mw_44 hd_X10_has.2 ⟨(Nat.le_of_ble_eq_true rfl), (Nat.le_of_ble_eq_true rfl)⟩,
    mm_r_eq1 X (show decode cX4_answerIn 41 = .ok (.ifCond .eq 34, 3) by decide +kernel) (by decide),
    mm_r_aload_n X (show decode cX4_answerIn 44 = .ok (.aload_n 0, 1) by decide +kernel) rfl,
    mm_r_iconst X (show decode cX4_answerIn 45 = .ok (.iconst 1, 1) by decide +kernel) rfl,
    mm_r_iload X (show decode cX4_answerIn 46 = .ok (.iload 5, 2) by decide +kernel),
    mm_r_ishl X (show decode cX4_answerIn 48 = .ok (.ishl, 1) by decide +kernel),
    mm_r_iload X (show decode cX4_answerIn 49 = .ok (.iload 4, 2) by decide +kernel),
    mm_r_iconst X (show decode cX4_answerIn 51 = .ok (.iconst 1, 1) by decide +kernel) rfl,
    mm_r_iload X (show decode cX4_answerIn 52 = .ok (.iload 5, 2) by decide +kernel),
    mm_r_ishl X (show decode cX4_answerIn 54 = .ok (.ishl, 1) by decide +kernel),
    mm_r_iconst X (show decode cX4_answerIn 55 = .ok (.iconst (-1), 1) by decide +kernel) rfl,
    mm_r_ixor X (show decode cX4_answerIn 56 = .ok (.ixor, 1) by decide +kernel),
    mm_r_iand X (show decode cX4_answerIn 57 = .ok (.iand, 1) by decide +kernel),
    mm_r_iconst X (show decode cX4_answerIn 58 = .ok (.iconst 0, 1) by decide +kernel) rfl,
    mm_r_clV X hth (ci := 4) (na := 3) (sn_X4_holds_top hl) rfl (show decode cX4_answerIn 59 = .ok (.invokevirtual 54, 3) by decide +kernel) mw_880 mw_877 mw_879 mw_21 mw_50 hd_X4_holds ⟨(Nat.le_of_ble_eq_true rfl), (Nat.le_of_ble_eq_true rfl)⟩,
    mm_r_eq1 X (show decode cX4_answerIn 62 = .ok (.ifCond .eq 13, 3) by decide +kernel) (by decide),
    mm_r_aload_n X (show decode cX4_answerIn 65 = .ok (.aload_n 0, 1) by decide +kernel) rfl,
    mm_r_gfR X (ci := 4) (p := 1) (show mm_kd 4 1 = 2 by decide +kernel) rfl (Nat.le_of_ble_eq_true rfl) (show decode cX4_answerIn 66 = .ok (.getfield 12, 3) by decide +kernel) mw_297 rfl,
    mm_r_iload X (show decode cX4_answerIn 69 = .ok (.iload 5, 2) by decide +kernel),
    mm_r_clV X hth (ci := 2) (na := 1) (sn_X2_cellAt hl) rfl (show decode cX4_answerIn 71 = .ok (.invokevirtual 81, 3) by decide +kernel) mw_921 mw_918 mw_919 mw_920 mw_49 hd_X2_cellAt ⟨(Nat.le_of_ble_eq_true rfl), (Nat.le_of_ble_eq_true rfl)⟩,
    mm_r_iret X hret (show decode cX4_answerIn 74 = .ok (.ireturn, 1) by decide +kernel),
    mm_r_iinc X (show decode cX4_answerIn 75 = .ok (.iinc 5 1, 3) by decide +kernel) rfl (Nat.le_of_ble_eq_true rfl),
    mm_r_goto X (show decode cX4_answerIn 78 = .ok (.goto (-57), 3) by decide +kernel) (by decide),
    mm_r_iconst X (show decode cX4_answerIn 81 = .ok (.iconst (-1), 1) by decide +kernel) rfl,
    mm_r_iret X hret (show decode cX4_answerIn 82 = .ok (.ireturn, 1) by decide +kernel), trivial⟩
theorem sn_X4_answerIn {l : Launch} (hl : l.stackTraces = false) : mm_Snd l yX4_answerIn (.code yX4_answerIn cX4_answerIn 6 (some .int)) 74 2827 f_X4_answerIn := mm_met hl (plainFor_of_name (by decide +kernel)) (ok_X4_answerIn hl)
/-! Linkcourt.answer(IIII)I -/
noncomputable def tb_X10_answer : List (Nat × mm_I) := [(0, mm_ldR 1 0), (1, mm_gfR 4 10 0), (4, mm_ldI 6 4), (6, mm_clV 9 1 1 f_X1_hasCell), (9, mm_ne1 22 12), (12, mm_thr 1), (22, mm_ldR 23 0), (23, mm_ldI 24 1), (24, mm_ldI 25 2), (25, mm_ldI 26 3), (26, mm_clV 29 10 3 f_X10_needLink), (29, mm_ldR 30 0), (30, mm_gfR 33 10 3), (33, mm_ldR 34 0), (34, mm_gfR 37 10 1), (37, mm_ldI 38 1), (38, mm_clV 41 6 1 f_X6_stones), (41, mm_ldR 42 0), (42, mm_gfR 45 10 1), (45, mm_clV 48 6 0 f_X6_empty), (48, mm_ldI 49 2), (49, mm_ldI 50 3), (50, mm_clV 53 4 4 f_X4_carrierOf), (53, mm_stJ 55 5), (55, mm_ldJ 57 5), (57, mm_k 60 (.long (-1))), (60, mm_cmp 61), (61, mm_eq1 74 64), (64, mm_ldJ 66 5), (66, mm_ldI 68 4), (68, mm_clS 71 2 f_X10_has), (71, mm_ne1 78 74), (74, mm_k 75 (.int (-1))), (75, mm_go 89), (78, mm_ldR 79 0), (79, mm_gfR 82 10 3), (82, mm_ldJ 84 5), (84, mm_ldI 86 4), (86, mm_clV 89 4 2 f_X4_answerIn), (89, mm_rtI)]
noncomputable def f_X10_answer : mm_F := mm_do (mm_pr tb_X10_answer) 7
theorem mn_X10_answer : mm_alln tb_X10_answer := ⟨mm_n_ldR _ _, mm_n_gfR _ _ _, mm_n_ldI _ _, mm_n_clV _ _ _ (mo_X1_hasCell), mm_n_ne1 _ _, mm_n_thr _, mm_n_ldR _ _, mm_n_ldI _ _, mm_n_ldI _ _, mm_n_ldI _ _, mm_n_clV _ _ _ (mo_X10_needLink), mm_n_ldR _ _, mm_n_gfR _ _ _, mm_n_ldR _ _, mm_n_gfR _ _ _, mm_n_ldI _ _, mm_n_clV _ _ _ (mo_X6_stones), mm_n_ldR _ _, mm_n_gfR _ _ _, mm_n_clV _ _ _ (mo_X6_empty), mm_n_ldI _ _, mm_n_ldI _ _, mm_n_clV _ _ _ (mo_X4_carrierOf), mm_n_stJ _ _, mm_n_ldJ _ _, mm_n_k _ _, mm_n_cmp _, mm_n_eq1 _ _, mm_n_ldJ _ _, mm_n_ldI _ _, mm_n_clS _ _ (mo_X10_has), mm_n_ne1 _ _, mm_n_k _ _, mm_n_go _, mm_n_ldR _ _, mm_n_gfR _ _ _, mm_n_ldJ _ _, mm_n_ldI _ _, mm_n_clV _ _ _ (mo_X4_answerIn), mm_n_rtI, trivial⟩
theorem mo_X10_answer : mm_Mo f_X10_answer := mm_do_mo (mm_alln_mem mn_X10_answer)
set_option maxRecDepth 10000 in
theorem ok_X10_answer {l : Launch} (hl : l.stackTraces = false) : mm_Ok l yX10_answer cX10_answer 7 (some .int) 75 2856 tb_X10_answer := by
  refine ⟨mm_alln_mem mn_X10_answer, fun p e cells slots s m args below meth c D tc A S ad Tg X hret hname htab hth => mm_allr_mem ?_⟩
  exact ⟨mm_r_aload_n X (show decode cX10_answer 0 = .ok (.aload_n 0, 1) by decide +kernel) rfl,
    mm_r_gfR X (ci := 10) (p := 0) (show mm_kd 10 0 = 2 by decide +kernel) rfl (Nat.le_of_ble_eq_true rfl) (show decode cX10_answer 1 = .ok (.getfield 24, 3) by decide +kernel) mw_428 rfl,
    mm_r_iload X (show decode cX10_answer 4 = .ok (.iload 4, 2) by decide +kernel),
    mm_r_clV X hth (ci := 1) (na := 1) (sn_X1_hasCell hl) rfl (show decode cX10_answer 6 = .ok (.invokevirtual 106, 3) by decide +kernel) mw_568 mw_565 mw_566 mw_567 mw_45 hd_X1_hasCell ⟨(Nat.le_of_ble_eq_true rfl), (Nat.le_of_ble_eq_true rfl)⟩,
    mm_r_ne1 X (show decode cX10_answer 9 = .ok (.ifCond .ne 13, 3) by decide +kernel) (by decide),
    mm_r_thr X htab (E := 1) (ik := 110) (is := 112) (ic := 114) (text := "there is no such cell") (by decide) rfl mm_aw1 mw_569 mw_60 (by decide +kernel) (show decode cX10_answer 12 = .ok (.new 110, 3) by decide +kernel) (show decode cX10_answer 15 = .ok (.dup, 1) by decide +kernel) (show decode cX10_answer 16 = .ok (.ldc 112, 2) by decide +kernel) (show decode cX10_answer 18 = .ok (.invokespecial 114, 3) by decide +kernel) (show decode cX10_answer 21 = .ok (.athrow, 1) by decide +kernel) (Nat.le_of_ble_eq_true rfl) (Nat.le_of_ble_eq_true rfl),
    mm_r_aload_n X (show decode cX10_answer 22 = .ok (.aload_n 0, 1) by decide +kernel) rfl,
    mm_r_iload_n X (show decode cX10_answer 23 = .ok (.iload_n 1, 1) by decide +kernel) rfl,
    mm_r_iload_n X (show decode cX10_answer 24 = .ok (.iload_n 2, 1) by decide +kernel) rfl,
    mm_r_iload_n X (show decode cX10_answer 25 = .ok (.iload_n 3, 1) by decide +kernel) rfl,
    mm_r_clV X hth (ci := 10) (na := 3) (sn_X10_needLink hl) rfl (show decode cX10_answer 26 = .ok (.invokevirtual 231, 3) by decide +kernel) mw_859 mw_856 mw_858 mw_19 mw_44 hd_X10_needLink ⟨(Nat.le_of_ble_eq_true rfl), (Nat.le_of_ble_eq_true rfl)⟩,
    mm_r_aload_n X (show decode cX10_answer 29 = .ok (.aload_n 0, 1) by decide +kernel) rfl,
    mm_r_gfR X (ci := 10) (p := 3) (show mm_kd 10 3 = 2 by decide +kernel) rfl (Nat.le_of_ble_eq_true rfl) (show decode cX10_answer 30 = .ok (.getfield 42, 3) by decide +kernel) mw_431 rfl,
    mm_r_aload_n X (show decode cX10_answer 33 = .ok (.aload_n 0, 1) by decide +kernel) rfl,
    mm_r_gfR X (ci := 10) (p := 1) (show mm_kd 10 1 = 2 by decide +kernel) rfl (Nat.le_of_ble_eq_true rfl) (show decode cX10_answer 34 = .ok (.getfield 28, 3) by decide +kernel) mw_429 rfl,
    mm_r_iload_n X (show decode cX10_answer 37 = .ok (.iload_n 1, 1) by decide +kernel) rfl,
    mm_r_clV X hth (ci := 6) (na := 1) (sn_X6_stones hl) rfl (show decode cX10_answer 38 = .ok (.invokevirtual 194, 3) by decide +kernel) mw_601 mw_598 mw_599 mw_600 mw_46 hd_X6_stones ⟨(Nat.le_of_ble_eq_true rfl), (Nat.le_of_ble_eq_true rfl)⟩,
    mm_r_aload_n X (show decode cX10_answer 41 = .ok (.aload_n 0, 1) by decide +kernel) rfl,
    mm_r_gfR X (ci := 10) (p := 1) (show mm_kd 10 1 = 2 by decide +kernel) rfl (Nat.le_of_ble_eq_true rfl) (show decode cX10_answer 42 = .ok (.getfield 28, 3) by decide +kernel) mw_429 rfl,
    mm_r_clV X hth (ci := 6) (na := 0) (sn_X6_empty hl) rfl (show decode cX10_answer 45 = .ok (.invokevirtual 115, 3) by decide +kernel) mw_483 mw_480 mw_481 mw_482 mw_46 hd_X6_empty ⟨(Nat.le_of_ble_eq_true rfl), (Nat.le_of_ble_eq_true rfl)⟩,
    mm_r_iload_n X (show decode cX10_answer 48 = .ok (.iload_n 2, 1) by decide +kernel) rfl,
    mm_r_iload_n X (show decode cX10_answer 49 = .ok (.iload_n 3, 1) by decide +kernel) rfl,
    mm_r_clV X hth (ci := 4) (na := 4) (sn_X4_carrierOf hl) rfl (show decode cX10_answer 50 = .ok (.invokevirtual 234, 3) by decide +kernel) mw_873 mw_870 mw_871 mw_872 mw_50 hd_X4_carrierOf ⟨(Nat.le_of_ble_eq_true rfl), (Nat.le_of_ble_eq_true rfl)⟩,
    mm_r_lstore X (show decode cX10_answer 53 = .ok (.lstore 5, 2) by decide +kernel) (Nat.le_of_ble_eq_true rfl),
    mm_r_lload X (show decode cX10_answer 55 = .ok (.lload 5, 2) by decide +kernel),
    mm_r_ldc2 X (show decode cX10_answer 57 = .ok (.ldc2_w 238, 3) by decide +kernel) mw_909,
    mm_r_lcmp X (show decode cX10_answer 60 = .ok (.lcmp, 1) by decide +kernel),
    mm_r_eq1 X (show decode cX10_answer 61 = .ok (.ifCond .eq 13, 3) by decide +kernel) (by decide),
    mm_r_lload X (show decode cX10_answer 64 = .ok (.lload 5, 2) by decide +kernel),
    mm_r_iload X (show decode cX10_answer 66 = .ok (.iload 4, 2) by decide +kernel),
    mm_r_clS X hth (na := 2) (sn_X10_has hl) (show decode cX10_answer 68 = .ok (.invokestatic 119, 3) by decide +kernel) mw_593 mw_727 mw_592 mw_44 hd_X10_has.2 ⟨(Nat.le_of_ble_eq_true rfl), (Nat.le_of_ble_eq_true rfl)⟩,
    mm_r_ne1 X (show decode cX10_answer 71 = .ok (.ifCond .ne 7, 3) by decide +kernel) (by decide),
    mm_r_iconst X (show decode cX10_answer 74 = .ok (.iconst (-1), 1) by decide +kernel) rfl,
    mm_r_goto X (show decode cX10_answer 75 = .ok (.goto 14, 3) by decide +kernel) (by decide),
    mm_r_aload_n X (show decode cX10_answer 78 = .ok (.aload_n 0, 1) by decide +kernel) rfl,
    mm_r_gfR X (ci := 10) (p := 3) (show mm_kd 10 3 = 2 by decide +kernel) rfl (Nat.le_of_ble_eq_true rfl) (show decode cX10_answer 79 = .ok (.getfield 42, 3) by decide +kernel) mw_431 rfl,
    mm_r_lload X (show decode cX10_answer 82 = .ok (.lload 5, 2) by decide +kernel),
    mm_r_iload X (show decode cX10_answer 84 = .ok (.iload 4, 2) by decide +kernel),
    mm_r_clV X hth (ci := 4) (na := 2) (sn_X4_answerIn hl) rfl (show decode cX10_answer 86 = .ok (.invokevirtual 240, 3) by decide +kernel) mw_913 mw_910 mw_911 mw_912 mw_50 hd_X4_answerIn ⟨(Nat.le_of_ble_eq_true rfl), (Nat.le_of_ble_eq_true rfl)⟩,
    mm_r_iret X hret (show decode cX10_answer 89 = .ok (.ireturn, 1) by decide +kernel), trivial⟩
theorem sn_X10_answer {l : Launch} (hl : l.stackTraces = false) : mm_Snd l yX10_answer (.code yX10_answer cX10_answer 7 (some .int)) 75 2856 f_X10_answer := mm_met hl (plainFor_of_name (by decide +kernel)) (ok_X10_answer hl)
/-! Linkcourt.gaveAway(I)Z -/
noncomputable def tb_X10_gaveAway : List (Nat × mm_I) := [(0, mm_ldI 1 1), (1, mm_lt1 15 4), (4, mm_ldI 5 1), (5, mm_ldR 6 0), (6, mm_gfR 9 10 1), (9, mm_gfI 12 6 2), (12, mm_lt2 25 15), (15, mm_thr 1), (25, mm_ldI 26 1), (26, mm_k 27 (.int 1)), (27, mm_ne2 50 30), (30, mm_ldR 31 0), (31, mm_gfR 34 10 1), (34, mm_gfI 37 6 3), (37, mm_eq1 50 40), (40, mm_thr 2), (50, mm_ldR 51 0), (51, mm_gfR 54 10 1), (54, mm_ldI 55 1), (55, mm_k 56 (.int 0)), (56, mm_clV 59 6 2 f_X6_stonesAhead), (59, mm_stJ 60 2), (60, mm_ldR 61 0), (61, mm_gfR 64 10 1), (64, mm_ldI 65 1), (65, mm_k 66 (.int 1)), (66, mm_clV 69 6 2 f_X6_stonesAhead), (69, mm_stJ 71 4), (71, mm_ldR 72 0), (72, mm_gfR 75 10 0), (75, mm_gfI 78 1 8), (78, mm_ldJ 79 2), (79, mm_ldJ 81 4), (81, mm_l2 82 (fun a b => a ||| b)), (82, mm_clS 85 1 f_J13_bitCount_95d88), (85, mm_i2 86 (fun a b => a - b)), (86, mm_k 88 (.int 9)), (88, mm_le2 101 91), (91, mm_thr 3), (101, mm_ldI 102 1), (102, mm_k 103 (.int 1)), (103, mm_i2 104 (fun a b => a &&& b)), (104, mm_stI 106 6), (106, mm_ldR 107 0), (107, mm_gfR 110 10 2), (110, mm_ldJ 111 2), (111, mm_ldJ 113 4), (113, mm_ldI 115 6), (115, mm_clV 118 0 3 f_X0_winnerOf), (118, mm_ldI 120 6), (120, mm_eq2 125 123), (123, mm_k 124 (.int 0)), (124, mm_rtZ), (125, mm_ldR 126 0), (126, mm_gfR 129 10 1), (129, mm_ldI 130 1), (130, mm_k 131 (.int 1)), (131, mm_i2 132 (fun a b => a + b)), (132, mm_k 133 (.int 0)), (133, mm_clV 136 6 2 f_X6_stonesAhead), (136, mm_stJ 138 7), (138, mm_ldR 139 0), (139, mm_gfR 142 10 1), (142, mm_ldI 143 1), (143, mm_k 144 (.int 1)), (144, mm_i2 145 (fun a b => a + b)), (145, mm_k 146 (.int 1)), (146, mm_clV 149 6 2 f_X6_stonesAhead), (149, mm_stJ 151 9), (151, mm_ldR 152 0), (152, mm_gfR 155 10 2), (155, mm_ldJ 157 7), (157, mm_ldJ 159 9), (159, mm_k 160 (.int 1)), (160, mm_ldI 162 6), (162, mm_i2 163 (fun a b => a - b)), (163, mm_clV 166 0 3 f_X0_winnerOf), (166, mm_ldI 168 6), (168, mm_eq2 175 171), (171, mm_k 172 (.int 1)), (172, mm_go 176), (175, mm_k 176 (.int 0)), (176, mm_rtZ)]
noncomputable def f_X10_gaveAway : mm_F := mm_do (mm_pr tb_X10_gaveAway) 11
theorem mn_X10_gaveAway : mm_alln tb_X10_gaveAway := ⟨mm_n_ldI _ _, mm_n_lt1 _ _, mm_n_ldI _ _, mm_n_ldR _ _, mm_n_gfR _ _ _, mm_n_gfI _ _ _, mm_n_lt2 _ _, mm_n_thr _, mm_n_ldI _ _, mm_n_k _ _, mm_n_ne2 _ _, mm_n_ldR _ _, mm_n_gfR _ _ _, mm_n_gfI _ _ _, mm_n_eq1 _ _, mm_n_thr _, mm_n_ldR _ _, mm_n_gfR _ _ _, mm_n_ldI _ _, mm_n_k _ _, mm_n_clV _ _ _ (mo_X6_stonesAhead), mm_n_stJ _ _, mm_n_ldR _ _, mm_n_gfR _ _ _, mm_n_ldI _ _, mm_n_k _ _, mm_n_clV _ _ _ (mo_X6_stonesAhead), mm_n_stJ _ _, mm_n_ldR _ _, mm_n_gfR _ _ _, mm_n_gfI _ _ _, mm_n_ldJ _ _, mm_n_ldJ _ _, mm_n_l2 _ _, mm_n_clS _ _ (mo_J13_bitCount_95d88), mm_n_i2 _ _, mm_n_k _ _, mm_n_le2 _ _, mm_n_thr _, mm_n_ldI _ _, mm_n_k _ _, mm_n_i2 _ _, mm_n_stI _ _, mm_n_ldR _ _, mm_n_gfR _ _ _, mm_n_ldJ _ _, mm_n_ldJ _ _, mm_n_ldI _ _, mm_n_clV _ _ _ (mo_X0_winnerOf), mm_n_ldI _ _, mm_n_eq2 _ _, mm_n_k _ _, mm_n_rtZ, mm_n_ldR _ _, mm_n_gfR _ _ _, mm_n_ldI _ _, mm_n_k _ _, mm_n_i2 _ _, mm_n_k _ _, mm_n_clV _ _ _ (mo_X6_stonesAhead), mm_n_stJ _ _, mm_n_ldR _ _, mm_n_gfR _ _ _, mm_n_ldI _ _, mm_n_k _ _, mm_n_i2 _ _, mm_n_k _ _, mm_n_clV _ _ _ (mo_X6_stonesAhead), mm_n_stJ _ _, mm_n_ldR _ _, mm_n_gfR _ _ _, mm_n_ldJ _ _, mm_n_ldJ _ _, mm_n_k _ _, mm_n_ldI _ _, mm_n_i2 _ _, mm_n_clV _ _ _ (mo_X0_winnerOf), mm_n_ldI _ _, mm_n_eq2 _ _, mm_n_k _ _, mm_n_go _, mm_n_k _ _, mm_n_rtZ, trivial⟩
theorem mo_X10_gaveAway : mm_Mo f_X10_gaveAway := mm_do_mo (mm_alln_mem mn_X10_gaveAway)
set_option maxRecDepth 10000 in
theorem ok_X10_gaveAway {l : Launch} (hl : l.stackTraces = false) : mm_Ok l yX10_gaveAway cX10_gaveAway 11 (some .boolean) 64 2637 tb_X10_gaveAway := by
  refine ⟨mm_alln_mem mn_X10_gaveAway, fun p e cells slots s m args below meth c D tc A S ad Tg X hret hname htab hth => mm_allr_mem ?_⟩
  exact ⟨mm_r_iload_n X (show decode cX10_gaveAway 0 = .ok (.iload_n 1, 1) by decide +kernel) rfl,
    mm_r_lt1 X (show decode cX10_gaveAway 1 = .ok (.ifCond .lt 14, 3) by decide +kernel) (by decide),
    mm_r_iload_n X (show decode cX10_gaveAway 4 = .ok (.iload_n 1, 1) by decide +kernel) rfl,
    mm_r_aload_n X (show decode cX10_gaveAway 5 = .ok (.aload_n 0, 1) by decide +kernel) rfl,
    mm_r_gfR X (ci := 10) (p := 1) (show mm_kd 10 1 = 2 by decide +kernel) rfl (Nat.le_of_ble_eq_true rfl) (show decode cX10_gaveAway 6 = .ok (.getfield 28, 3) by decide +kernel) mw_429 rfl,
    mm_r_gfI X (ci := 6) (p := 2) (show mm_kd 6 2 = 0 by decide +kernel) rfl (Nat.le_of_ble_eq_true rfl) (show decode cX10_gaveAway 9 = .ok (.getfield 144, 3) by decide +kernel) mw_171 rfl,
    mm_r_lt2 X (show decode cX10_gaveAway 12 = .ok (.if_icmp .lt 13, 3) by decide +kernel) (by decide),
    mm_r_thr X htab (E := 1) (ik := 110) (is := 244) (ic := 114) (text := "there is no such move") (by decide) rfl mm_aw1 mw_569 mw_60 (by decide +kernel) (show decode cX10_gaveAway 15 = .ok (.new 110, 3) by decide +kernel) (show decode cX10_gaveAway 18 = .ok (.dup, 1) by decide +kernel) (show decode cX10_gaveAway 19 = .ok (.ldc 244, 2) by decide +kernel) (show decode cX10_gaveAway 21 = .ok (.invokespecial 114, 3) by decide +kernel) (show decode cX10_gaveAway 24 = .ok (.athrow, 1) by decide +kernel) (Nat.le_of_ble_eq_true rfl) (Nat.le_of_ble_eq_true rfl),
    mm_r_iload_n X (show decode cX10_gaveAway 25 = .ok (.iload_n 1, 1) by decide +kernel) rfl,
    mm_r_iconst X (show decode cX10_gaveAway 26 = .ok (.iconst 1, 1) by decide +kernel) rfl,
    mm_r_ne2 X (show decode cX10_gaveAway 27 = .ok (.if_icmp .ne 23, 3) by decide +kernel) (by decide),
    mm_r_aload_n X (show decode cX10_gaveAway 30 = .ok (.aload_n 0, 1) by decide +kernel) rfl,
    mm_r_gfR X (ci := 10) (p := 1) (show mm_kd 10 1 = 2 by decide +kernel) rfl (Nat.le_of_ble_eq_true rfl) (show decode cX10_gaveAway 31 = .ok (.getfield 28, 3) by decide +kernel) mw_429 rfl,
    mm_r_gfI X (ci := 6) (p := 3) (show mm_kd 6 3 = 0 by decide +kernel) rfl (Nat.le_of_ble_eq_true rfl) (show decode cX10_gaveAway 34 = .ok (.getfield 246, 3) by decide +kernel) mw_173 rfl,
    mm_r_eq1 X (show decode cX10_gaveAway 37 = .ok (.ifCond .eq 13, 3) by decide +kernel) (by decide),
    mm_r_thr X htab (E := 2) (ik := 85) (is := 249) (ic := 89) (text := "that move is the swap") (by decide) rfl mm_aw2 mw_494 mw_59 (by decide +kernel) (show decode cX10_gaveAway 40 = .ok (.new 85, 3) by decide +kernel) (show decode cX10_gaveAway 43 = .ok (.dup, 1) by decide +kernel) (show decode cX10_gaveAway 44 = .ok (.ldc 249, 2) by decide +kernel) (show decode cX10_gaveAway 46 = .ok (.invokespecial 89, 3) by decide +kernel) (show decode cX10_gaveAway 49 = .ok (.athrow, 1) by decide +kernel) (Nat.le_of_ble_eq_true rfl) (Nat.le_of_ble_eq_true rfl),
    mm_r_aload_n X (show decode cX10_gaveAway 50 = .ok (.aload_n 0, 1) by decide +kernel) rfl,
    mm_r_gfR X (ci := 10) (p := 1) (show mm_kd 10 1 = 2 by decide +kernel) rfl (Nat.le_of_ble_eq_true rfl) (show decode cX10_gaveAway 51 = .ok (.getfield 28, 3) by decide +kernel) mw_429 rfl,
    mm_r_iload_n X (show decode cX10_gaveAway 54 = .ok (.iload_n 1, 1) by decide +kernel) rfl,
    mm_r_iconst X (show decode cX10_gaveAway 55 = .ok (.iconst 0, 1) by decide +kernel) rfl,
    mm_r_clV X hth (ci := 6) (na := 2) (sn_X6_stonesAhead hl) rfl (show decode cX10_gaveAway 56 = .ok (.invokevirtual 251, 3) by decide +kernel) mw_206 mw_928 mw_204 mw_205 mw_46 hd_X6_stonesAhead ⟨(Nat.le_of_ble_eq_true rfl), (Nat.le_of_ble_eq_true rfl)⟩,
    mm_r_lstore_n X (show decode cX10_gaveAway 59 = .ok (.lstore_n 2, 1) by decide +kernel) rfl (Nat.le_of_ble_eq_true rfl),
    mm_r_aload_n X (show decode cX10_gaveAway 60 = .ok (.aload_n 0, 1) by decide +kernel) rfl,
    mm_r_gfR X (ci := 10) (p := 1) (show mm_kd 10 1 = 2 by decide +kernel) rfl (Nat.le_of_ble_eq_true rfl) (show decode cX10_gaveAway 61 = .ok (.getfield 28, 3) by decide +kernel) mw_429 rfl,
    mm_r_iload_n X (show decode cX10_gaveAway 64 = .ok (.iload_n 1, 1) by decide +kernel) rfl,
    mm_r_iconst X (show decode cX10_gaveAway 65 = .ok (.iconst 1, 1) by decide +kernel) rfl,
    mm_r_clV X hth (ci := 6) (na := 2) (sn_X6_stonesAhead hl) rfl (show decode cX10_gaveAway 66 = .ok (.invokevirtual 251, 3) by decide +kernel) mw_206 mw_928 mw_204 mw_205 mw_46 hd_X6_stonesAhead ⟨(Nat.le_of_ble_eq_true rfl), (Nat.le_of_ble_eq_true rfl)⟩,
    mm_r_lstore X (show decode cX10_gaveAway 69 = .ok (.lstore 4, 2) by decide +kernel) (Nat.le_of_ble_eq_true rfl),
    mm_r_aload_n X (show decode cX10_gaveAway 71 = .ok (.aload_n 0, 1) by decide +kernel) rfl,
    mm_r_gfR X (ci := 10) (p := 0) (show mm_kd 10 0 = 2 by decide +kernel) rfl (Nat.le_of_ble_eq_true rfl) (show decode cX10_gaveAway 72 = .ok (.getfield 24, 3) by decide +kernel) mw_428 rfl,
    mm_r_gfI X (ci := 1) (p := 8) (show mm_kd 1 8 = 0 by decide +kernel) rfl (Nat.le_of_ble_eq_true rfl) (show decode cX10_gaveAway 75 = .ok (.getfield 102, 3) by decide +kernel) mw_90 rfl,
    mm_r_lload_n X (show decode cX10_gaveAway 78 = .ok (.lload_n 2, 1) by decide +kernel) rfl,
    mm_r_lload X (show decode cX10_gaveAway 79 = .ok (.lload 4, 2) by decide +kernel),
    mm_r_lor X (show decode cX10_gaveAway 81 = .ok (.lor, 1) by decide +kernel),
    mm_r_clS X hth (na := 1) (sn_J13_bitCount_95d88 hl) (show decode cX10_gaveAway 82 = .ok (.invokestatic 160, 3) by decide +kernel) mw_229 mw_485 mw_228 mw_47 hd_J13_bitCount_95d88.2 ⟨(Nat.le_of_ble_eq_true rfl), (Nat.le_of_ble_eq_true rfl)⟩,
    mm_r_isub X (show decode cX10_gaveAway 85 = .ok (.isub, 1) by decide +kernel),
    mm_r_bipush X (show decode cX10_gaveAway 86 = .ok (.bipush 9, 2) by decide +kernel) rfl,
    mm_r_le2 X (show decode cX10_gaveAway 88 = .ok (.if_icmp .le 13, 3) by decide +kernel) (by decide),
    mm_r_thr X htab (E := 3) (ik := 129) (is := 255) (ic := 133) (text := "more than 9 cells were empty") (by decide) rfl mm_aw3 mw_729 mw_62 (by decide +kernel) (show decode cX10_gaveAway 91 = .ok (.new 129, 3) by decide +kernel) (show decode cX10_gaveAway 94 = .ok (.dup, 1) by decide +kernel) (show decode cX10_gaveAway 95 = .ok (.ldc 255, 2) by decide +kernel) (show decode cX10_gaveAway 97 = .ok (.invokespecial 133, 3) by decide +kernel) (show decode cX10_gaveAway 100 = .ok (.athrow, 1) by decide +kernel) (Nat.le_of_ble_eq_true rfl) (Nat.le_of_ble_eq_true rfl),
    mm_r_iload_n X (show decode cX10_gaveAway 101 = .ok (.iload_n 1, 1) by decide +kernel) rfl,
    mm_r_iconst X (show decode cX10_gaveAway 102 = .ok (.iconst 1, 1) by decide +kernel) rfl,
    mm_r_iand X (show decode cX10_gaveAway 103 = .ok (.iand, 1) by decide +kernel),
    mm_r_istore X (show decode cX10_gaveAway 104 = .ok (.istore 6, 2) by decide +kernel) (Nat.le_of_ble_eq_true rfl),
    mm_r_aload_n X (show decode cX10_gaveAway 106 = .ok (.aload_n 0, 1) by decide +kernel) rfl,
    mm_r_gfR X (ci := 10) (p := 2) (show mm_kd 10 2 = 2 by decide +kernel) rfl (Nat.le_of_ble_eq_true rfl) (show decode cX10_gaveAway 107 = .ok (.getfield 35, 3) by decide +kernel) mw_430 rfl,
    mm_r_lload_n X (show decode cX10_gaveAway 110 = .ok (.lload_n 2, 1) by decide +kernel) rfl,
    mm_r_lload X (show decode cX10_gaveAway 111 = .ok (.lload 4, 2) by decide +kernel),
    mm_r_iload X (show decode cX10_gaveAway 113 = .ok (.iload 6, 2) by decide +kernel),
    mm_r_clV X hth (ci := 0) (na := 3) (sn_X0_winnerOf hl) rfl (show decode cX10_gaveAway 115 = .ok (.invokevirtual 217, 3) by decide +kernel) mw_794 mw_791 mw_792 mw_793 mw_48 hd_X0_winnerOf ⟨(Nat.le_of_ble_eq_true rfl), (Nat.le_of_ble_eq_true rfl)⟩,
    mm_r_iload X (show decode cX10_gaveAway 118 = .ok (.iload 6, 2) by decide +kernel),
    mm_r_eq2 X (show decode cX10_gaveAway 120 = .ok (.if_icmp .eq 5, 3) by decide +kernel) (by decide),
    mm_r_iconst X (show decode cX10_gaveAway 123 = .ok (.iconst 0, 1) by decide +kernel) rfl,
    mm_r_zret X hret (show decode cX10_gaveAway 124 = .ok (.ireturn, 1) by decide +kernel),
    mm_r_aload_n X (show decode cX10_gaveAway 125 = .ok (.aload_n 0, 1) by decide +kernel) rfl,
    mm_r_gfR X (ci := 10) (p := 1) (show mm_kd 10 1 = 2 by decide +kernel) rfl (Nat.le_of_ble_eq_true rfl) (show decode cX10_gaveAway 126 = .ok (.getfield 28, 3) by decide +kernel) mw_429 rfl,
    mm_r_iload_n X (show decode cX10_gaveAway 129 = .ok (.iload_n 1, 1) by decide +kernel) rfl,
    mm_r_iconst X (show decode cX10_gaveAway 130 = .ok (.iconst 1, 1) by decide +kernel) rfl,
    mm_r_iadd X (show decode cX10_gaveAway 131 = .ok (.iadd, 1) by decide +kernel),
    mm_r_iconst X (show decode cX10_gaveAway 132 = .ok (.iconst 0, 1) by decide +kernel) rfl,
    mm_r_clV X hth (ci := 6) (na := 2) (sn_X6_stonesAhead hl) rfl (show decode cX10_gaveAway 133 = .ok (.invokevirtual 251, 3) by decide +kernel) mw_206 mw_928 mw_204 mw_205 mw_46 hd_X6_stonesAhead ⟨(Nat.le_of_ble_eq_true rfl), (Nat.le_of_ble_eq_true rfl)⟩,
    mm_r_lstore X (show decode cX10_gaveAway 136 = .ok (.lstore 7, 2) by decide +kernel) (Nat.le_of_ble_eq_true rfl),
    mm_r_aload_n X (show decode cX10_gaveAway 138 = .ok (.aload_n 0, 1) by decide +kernel) rfl,
    mm_r_gfR X (ci := 10) (p := 1) (show mm_kd 10 1 = 2 by decide +kernel) rfl (Nat.le_of_ble_eq_true rfl) (show decode cX10_gaveAway 139 = .ok (.getfield 28, 3) by decide +kernel) mw_429 rfl,
    mm_r_iload_n X (show decode cX10_gaveAway 142 = .ok (.iload_n 1, 1) by decide +kernel) rfl,
    mm_r_iconst X (show decode cX10_gaveAway 143 = .ok (.iconst 1, 1) by decide +kernel) rfl,
    mm_r_iadd X (show decode cX10_gaveAway 144 = .ok (.iadd, 1) by decide +kernel),
    mm_r_iconst X (show decode cX10_gaveAway 145 = .ok (.iconst 1, 1) by decide +kernel) rfl,
    mm_r_clV X hth (ci := 6) (na := 2) (sn_X6_stonesAhead hl) rfl (show decode cX10_gaveAway 146 = .ok (.invokevirtual 251, 3) by decide +kernel) mw_206 mw_928 mw_204 mw_205 mw_46 hd_X6_stonesAhead ⟨(Nat.le_of_ble_eq_true rfl), (Nat.le_of_ble_eq_true rfl)⟩,
    mm_r_lstore X (show decode cX10_gaveAway 149 = .ok (.lstore 9, 2) by decide +kernel) (Nat.le_of_ble_eq_true rfl),
    mm_r_aload_n X (show decode cX10_gaveAway 151 = .ok (.aload_n 0, 1) by decide +kernel) rfl,
    mm_r_gfR X (ci := 10) (p := 2) (show mm_kd 10 2 = 2 by decide +kernel) rfl (Nat.le_of_ble_eq_true rfl) (show decode cX10_gaveAway 152 = .ok (.getfield 35, 3) by decide +kernel) mw_430 rfl,
    mm_r_lload X (show decode cX10_gaveAway 155 = .ok (.lload 7, 2) by decide +kernel),
    mm_r_lload X (show decode cX10_gaveAway 157 = .ok (.lload 9, 2) by decide +kernel),
    mm_r_iconst X (show decode cX10_gaveAway 159 = .ok (.iconst 1, 1) by decide +kernel) rfl,
    mm_r_iload X (show decode cX10_gaveAway 160 = .ok (.iload 6, 2) by decide +kernel),
    mm_r_isub X (show decode cX10_gaveAway 162 = .ok (.isub, 1) by decide +kernel),
    mm_r_clV X hth (ci := 0) (na := 3) (sn_X0_winnerOf hl) rfl (show decode cX10_gaveAway 163 = .ok (.invokevirtual 217, 3) by decide +kernel) mw_794 mw_791 mw_792 mw_793 mw_48 hd_X0_winnerOf ⟨(Nat.le_of_ble_eq_true rfl), (Nat.le_of_ble_eq_true rfl)⟩,
    mm_r_iload X (show decode cX10_gaveAway 166 = .ok (.iload 6, 2) by decide +kernel),
    mm_r_eq2 X (show decode cX10_gaveAway 168 = .ok (.if_icmp .eq 7, 3) by decide +kernel) (by decide),
    mm_r_iconst X (show decode cX10_gaveAway 171 = .ok (.iconst 1, 1) by decide +kernel) rfl,
    mm_r_goto X (show decode cX10_gaveAway 172 = .ok (.goto 4, 3) by decide +kernel) (by decide),
    mm_r_iconst X (show decode cX10_gaveAway 175 = .ok (.iconst 0, 1) by decide +kernel) rfl,
    mm_r_zret X hret (show decode cX10_gaveAway 176 = .ok (.ireturn, 1) by decide +kernel), trivial⟩
theorem sn_X10_gaveAway {l : Launch} (hl : l.stackTraces = false) : mm_Snd l yX10_gaveAway (.code yX10_gaveAway cX10_gaveAway 11 (some .boolean)) 64 2637 f_X10_gaveAway := mm_met hl (plainFor_of_name (by decide +kernel)) (ok_X10_gaveAway hl)
