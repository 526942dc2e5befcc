/-! the law's own methods: by program (wip/whole/gen/gencode.py) -/
/-! LinkcourtLaw.game(LLinkcourt;III[J)I -/
noncomputable def tb_L_game : List (Nat × mm_I) := [(0, mm_ldR 2 4), (2, mm_k 3 (.int 0)), (3, mm_ldR 4 0), (4, mm_ldI 5 1), (5, mm_ldI 6 2), (6, mm_ldI 7 3), (7, mm_clC 10 10 3 f_X10_game [(2, 17, 5)]), (10, mm_il 11 (fun a => a.toInt64)), (11, mm_astJ 12), (12, mm_go 19), (15, mm_stR 17 5), (17, mm_k 18 (.int 1)), (18, mm_rtI), (19, mm_k 20 (.int 0)), (20, mm_rtI)]
noncomputable def f_L_game : mm_F := mm_do (mm_pr tb_L_game) 6
theorem mn_L_game : mm_alln tb_L_game := ⟨mm_n_ldR _ _, mm_n_k _ _, mm_n_ldR _ _, mm_n_ldI _ _, mm_n_ldI _ _, mm_n_ldI _ _, mm_n_clC _ _ _ _ (mo_X10_game), mm_n_il _ _, mm_n_astJ _, mm_n_go _, mm_n_stR _ _, mm_n_k _ _, mm_n_rtI, mm_n_k _ _, mm_n_rtI, trivial⟩
theorem mo_L_game : mm_Mo f_L_game := mm_do_mo (mm_alln_mem mn_L_game)
set_option maxRecDepth 10000 in
theorem ok_L_game {l : Launch} (hl : l.stackTraces = false) : mm_OkH l yL_game cL_game 6 (some .int) [(0, 12, 15, 13)] 8 186 tb_L_game := by
  refine ⟨mm_alln_mem mn_L_game, fun p e cells slots s m args below meth c D tc A S ad Tg X hret htab => mm_allr_mem ?_⟩
  exact ⟨mm_r_aload X (show decode cL_game 0 = .ok (.aload 4, 2) by decide +kernel),
    mm_r_iconst X (show decode cL_game 2 = .ok (.iconst 0, 1) by decide +kernel) rfl,
    mm_r_aload_n X (show decode cL_game 3 = .ok (.aload_n 0, 1) by decide +kernel) rfl,
    mm_r_iload_n X (show decode cL_game 4 = .ok (.iload_n 1, 1) by decide +kernel) rfl,
    mm_r_iload_n X (show decode cL_game 5 = .ok (.iload_n 2, 1) by decide +kernel) rfl,
    mm_r_iload_n X (show decode cL_game 6 = .ok (.iload_n 3, 1) by decide +kernel) rfl,
    mm_r_clC X (ci := 10) (na := 3) (hs := [(2, 17, 5)]) htab ⟨⟨by decide, ⟨by decide, by decide⟩, by decide, mw_527, (Nat.le_of_ble_eq_true rfl), (Or.inr ⟨(show decode cL_game 15 = .ok (.astore 5, 2) by decide +kernel), rfl⟩)⟩, trivial⟩ (sn_X10_game hl) rfl (show decode cL_game 7 = .ok (.invokevirtual 7, 3) by decide +kernel) mw_531 mw_528 mw_529 mw_530 mw_93 hd_X10_game ⟨(Nat.le_of_ble_eq_true rfl), (Nat.le_of_ble_eq_true rfl)⟩,
    mm_r_i2l X (show decode cL_game 10 = .ok (.i2l, 1) by decide +kernel),
    mm_r_last X (show decode cL_game 11 = .ok (.lastore, 1) by decide +kernel),
    mm_r_goto X (show decode cL_game 12 = .ok (.goto 7, 3) by decide +kernel) (by decide),
    mm_r_astore X (show decode cL_game 15 = .ok (.astore 5, 2) by decide +kernel) (Nat.le_of_ble_eq_true rfl),
    mm_r_iconst X (show decode cL_game 17 = .ok (.iconst 1, 1) by decide +kernel) rfl,
    mm_r_iret X hret (show decode cL_game 18 = .ok (.ireturn, 1) by decide +kernel),
    mm_r_iconst X (show decode cL_game 19 = .ok (.iconst 0, 1) by decide +kernel) rfl,
    mm_r_iret X hret (show decode cL_game 20 = .ok (.ireturn, 1) by decide +kernel), trivial⟩
theorem sn_L_game {l : Launch} (hl : l.stackTraces = false) : mm_Snd l yL_game (.codeWith yL_game cL_game 6 (some .int) [(0, 12, 15, 13)]) 8 186 f_L_game := mm_metH hl (by decide +kernel) (ok_L_game hl)
/-! LinkcourtLaw.move(LLinkcourt;I[J)I -/
noncomputable def tb_L_move : List (Nat × mm_I) := [(0, mm_ldR 1 2), (1, mm_k 2 (.int 0)), (2, mm_ldR 3 0), (3, mm_ldI 4 1), (4, mm_clC 7 10 1 f_X10_move [(1, 13, 3), (2, 16, 3), (3, 19, 3)]), (7, mm_il 8 (fun a => a.toInt64)), (8, mm_astJ 9), (9, mm_go 21), (12, mm_stR 13 3), (13, mm_k 14 (.int 1)), (14, mm_rtI), (15, mm_stR 16 3), (16, mm_k 17 (.int 2)), (17, mm_rtI), (18, mm_stR 19 3), (19, mm_k 20 (.int 3)), (20, mm_rtI), (21, mm_k 22 (.int 0)), (22, mm_rtI)]
noncomputable def f_L_move : mm_F := mm_do (mm_pr tb_L_move) 4
theorem mn_L_move : mm_alln tb_L_move := ⟨mm_n_ldR _ _, mm_n_k _ _, mm_n_ldR _ _, mm_n_ldI _ _, mm_n_clC _ _ _ _ (mo_X10_move), mm_n_il _ _, mm_n_astJ _, mm_n_go _, mm_n_stR _ _, mm_n_k _ _, mm_n_rtI, mm_n_stR _ _, mm_n_k _ _, mm_n_rtI, mm_n_stR _ _, mm_n_k _ _, mm_n_rtI, mm_n_k _ _, mm_n_rtI, trivial⟩
theorem mo_L_move : mm_Mo f_L_move := mm_do_mo (mm_alln_mem mn_L_move)
set_option maxRecDepth 10000 in
theorem ok_L_move {l : Launch} (hl : l.stackTraces = false) : mm_OkH l yL_move cL_move 4 (some .int) [(0, 9, 12, 19), (0, 9, 15, 13), (0, 9, 18, 21)] 8 185 tb_L_move := by
  refine ⟨mm_alln_mem mn_L_move, fun p e cells slots s m args below meth c D tc A S ad Tg X hret htab => mm_allr_mem ?_⟩
  exact ⟨mm_r_aload_n X (show decode cL_move 0 = .ok (.aload_n 2, 1) by decide +kernel) rfl,
    mm_r_iconst X (show decode cL_move 1 = .ok (.iconst 0, 1) by decide +kernel) rfl,
    mm_r_aload_n X (show decode cL_move 2 = .ok (.aload_n 0, 1) by decide +kernel) rfl,
    mm_r_iload_n X (show decode cL_move 3 = .ok (.iload_n 1, 1) by decide +kernel) rfl,
    mm_r_clC X (ci := 10) (na := 1) (hs := [(1, 13, 3), (2, 16, 3), (3, 19, 3)]) htab ⟨⟨by decide, ⟨by decide, by decide⟩, by decide, mw_620, (Nat.le_of_ble_eq_true rfl), (Or.inl ⟨3, (show decode cL_move 12 = .ok (.astore_n 3, 1) by decide +kernel), rfl, rfl⟩)⟩, ⟨by decide, ⟨by decide, by decide⟩, by decide, mw_527, (Nat.le_of_ble_eq_true rfl), (Or.inl ⟨3, (show decode cL_move 15 = .ok (.astore_n 3, 1) by decide +kernel), rfl, rfl⟩)⟩, ⟨by decide, ⟨by decide, by decide⟩, by decide, mw_621, (Nat.le_of_ble_eq_true rfl), (Or.inl ⟨3, (show decode cL_move 18 = .ok (.astore_n 3, 1) by decide +kernel), rfl, rfl⟩)⟩, trivial⟩ (sn_X10_move hl) rfl (show decode cL_move 4 = .ok (.invokevirtual 15, 3) by decide +kernel) mw_625 mw_622 mw_623 mw_624 mw_93 hd_X10_move ⟨(Nat.le_of_ble_eq_true rfl), (Nat.le_of_ble_eq_true rfl)⟩,
    mm_r_i2l X (show decode cL_move 7 = .ok (.i2l, 1) by decide +kernel),
    mm_r_last X (show decode cL_move 8 = .ok (.lastore, 1) by decide +kernel),
    mm_r_goto X (show decode cL_move 9 = .ok (.goto 12, 3) by decide +kernel) (by decide),
    mm_r_astore_n X (show decode cL_move 12 = .ok (.astore_n 3, 1) by decide +kernel) rfl (Nat.le_of_ble_eq_true rfl),
    mm_r_iconst X (show decode cL_move 13 = .ok (.iconst 1, 1) by decide +kernel) rfl,
    mm_r_iret X hret (show decode cL_move 14 = .ok (.ireturn, 1) by decide +kernel),
    mm_r_astore_n X (show decode cL_move 15 = .ok (.astore_n 3, 1) by decide +kernel) rfl (Nat.le_of_ble_eq_true rfl),
    mm_r_iconst X (show decode cL_move 16 = .ok (.iconst 2, 1) by decide +kernel) rfl,
    mm_r_iret X hret (show decode cL_move 17 = .ok (.ireturn, 1) by decide +kernel),
    mm_r_astore_n X (show decode cL_move 18 = .ok (.astore_n 3, 1) by decide +kernel) rfl (Nat.le_of_ble_eq_true rfl),
    mm_r_iconst X (show decode cL_move 19 = .ok (.iconst 3, 1) by decide +kernel) rfl,
    mm_r_iret X hret (show decode cL_move 20 = .ok (.ireturn, 1) by decide +kernel),
    mm_r_iconst X (show decode cL_move 21 = .ok (.iconst 0, 1) by decide +kernel) rfl,
    mm_r_iret X hret (show decode cL_move 22 = .ok (.ireturn, 1) by decide +kernel), trivial⟩
theorem sn_L_move {l : Launch} (hl : l.stackTraces = false) : mm_Snd l yL_move (.codeWith yL_move cL_move 4 (some .int) [(0, 9, 12, 19), (0, 9, 15, 13), (0, 9, 18, 21)]) 8 185 f_L_move := mm_metH hl (by decide +kernel) (ok_L_move hl)
/-! LinkcourtLaw.swap(LLinkcourt;[J)I -/
noncomputable def tb_L_swap : List (Nat × mm_I) := [(0, mm_ldR 1 1), (1, mm_k 2 (.int 0)), (2, mm_ldR 3 0), (3, mm_clC 6 10 0 f_X10_swap [(3, 12, 2)]), (6, mm_il 7 (fun a => a.toInt64)), (7, mm_astJ 8), (8, mm_go 14), (11, mm_stR 12 2), (12, mm_k 13 (.int 1)), (13, mm_rtI), (14, mm_k 15 (.int 0)), (15, mm_rtI)]
noncomputable def f_L_swap : mm_F := mm_do (mm_pr tb_L_swap) 3
theorem mn_L_swap : mm_alln tb_L_swap := ⟨mm_n_ldR _ _, mm_n_k _ _, mm_n_ldR _ _, mm_n_clC _ _ _ _ (mo_X10_swap), mm_n_il _ _, mm_n_astJ _, mm_n_go _, mm_n_stR _ _, mm_n_k _ _, mm_n_rtI, mm_n_k _ _, mm_n_rtI, trivial⟩
theorem mo_L_swap : mm_Mo f_L_swap := mm_do_mo (mm_alln_mem mn_L_swap)
set_option maxRecDepth 10000 in
theorem ok_L_swap {l : Launch} (hl : l.stackTraces = false) : mm_OkH l yL_swap cL_swap 3 (some .int) [(0, 8, 11, 21)] 9 205 tb_L_swap := by
  refine ⟨mm_alln_mem mn_L_swap, fun p e cells slots s m args below meth c D tc A S ad Tg X hret htab => mm_allr_mem ?_⟩
  exact ⟨mm_r_aload_n X (show decode cL_swap 0 = .ok (.aload_n 1, 1) by decide +kernel) rfl,
    mm_r_iconst X (show decode cL_swap 1 = .ok (.iconst 0, 1) by decide +kernel) rfl,
    mm_r_aload_n X (show decode cL_swap 2 = .ok (.aload_n 0, 1) by decide +kernel) rfl,
    mm_r_clC X (ci := 10) (na := 0) (hs := [(3, 12, 2)]) htab ⟨⟨by decide, ⟨by decide, by decide⟩, by decide, mw_621, (Nat.le_of_ble_eq_true rfl), (Or.inl ⟨2, (show decode cL_swap 11 = .ok (.astore_n 2, 1) by decide +kernel), rfl, rfl⟩)⟩, trivial⟩ (sn_X10_swap hl) rfl (show decode cL_swap 3 = .ok (.invokevirtual 23, 3) by decide +kernel) mw_696 mw_693 mw_694 mw_695 mw_93 hd_X10_swap ⟨(Nat.le_of_ble_eq_true rfl), (Nat.le_of_ble_eq_true rfl)⟩,
    mm_r_i2l X (show decode cL_swap 6 = .ok (.i2l, 1) by decide +kernel),
    mm_r_last X (show decode cL_swap 7 = .ok (.lastore, 1) by decide +kernel),
    mm_r_goto X (show decode cL_swap 8 = .ok (.goto 6, 3) by decide +kernel) (by decide),
    mm_r_astore_n X (show decode cL_swap 11 = .ok (.astore_n 2, 1) by decide +kernel) rfl (Nat.le_of_ble_eq_true rfl),
    mm_r_iconst X (show decode cL_swap 12 = .ok (.iconst 1, 1) by decide +kernel) rfl,
    mm_r_iret X hret (show decode cL_swap 13 = .ok (.ireturn, 1) by decide +kernel),
    mm_r_iconst X (show decode cL_swap 14 = .ok (.iconst 0, 1) by decide +kernel) rfl,
    mm_r_iret X hret (show decode cL_swap 15 = .ok (.ireturn, 1) by decide +kernel), trivial⟩
theorem sn_L_swap {l : Launch} (hl : l.stackTraces = false) : mm_Snd l yL_swap (.codeWith yL_swap cL_swap 3 (some .int) [(0, 8, 11, 21)]) 9 205 f_L_swap := mm_metH hl (by decide +kernel) (ok_L_swap hl)
/-! LinkcourtLaw.undo(LLinkcourt;[J)I -/
noncomputable def tb_L_undo : List (Nat × mm_I) := [(0, mm_ldR 1 1), (1, mm_k 2 (.int 0)), (2, mm_ldR 3 0), (3, mm_clC 6 10 0 f_X10_undo [(3, 12, 2)]), (6, mm_il 7 (fun a => a.toInt64)), (7, mm_astJ 8), (8, mm_go 14), (11, mm_stR 12 2), (12, mm_k 13 (.int 1)), (13, mm_rtI), (14, mm_k 15 (.int 0)), (15, mm_rtI)]
noncomputable def f_L_undo : mm_F := mm_do (mm_pr tb_L_undo) 3
theorem mn_L_undo : mm_alln tb_L_undo := ⟨mm_n_ldR _ _, mm_n_k _ _, mm_n_ldR _ _, mm_n_clC _ _ _ _ (mo_X10_undo), mm_n_il _ _, mm_n_astJ _, mm_n_go _, mm_n_stR _ _, mm_n_k _ _, mm_n_rtI, mm_n_k _ _, mm_n_rtI, trivial⟩
theorem mo_L_undo : mm_Mo f_L_undo := mm_do_mo (mm_alln_mem mn_L_undo)
set_option maxRecDepth 10000 in
theorem ok_L_undo {l : Launch} (hl : l.stackTraces = false) : mm_OkH l yL_undo cL_undo 3 (some .int) [(0, 8, 11, 21)] 8 183 tb_L_undo := by
  refine ⟨mm_alln_mem mn_L_undo, fun p e cells slots s m args below meth c D tc A S ad Tg X hret htab => mm_allr_mem ?_⟩
  exact ⟨mm_r_aload_n X (show decode cL_undo 0 = .ok (.aload_n 1, 1) by decide +kernel) rfl,
    mm_r_iconst X (show decode cL_undo 1 = .ok (.iconst 0, 1) by decide +kernel) rfl,
    mm_r_aload_n X (show decode cL_undo 2 = .ok (.aload_n 0, 1) by decide +kernel) rfl,
    mm_r_clC X (ci := 10) (na := 0) (hs := [(3, 12, 2)]) htab ⟨⟨by decide, ⟨by decide, by decide⟩, by decide, mw_621, (Nat.le_of_ble_eq_true rfl), (Or.inl ⟨2, (show decode cL_undo 11 = .ok (.astore_n 2, 1) by decide +kernel), rfl, rfl⟩)⟩, trivial⟩ (sn_X10_undo hl) rfl (show decode cL_undo 3 = .ok (.invokevirtual 27, 3) by decide +kernel) mw_713 mw_710 mw_711 mw_712 mw_93 hd_X10_undo ⟨(Nat.le_of_ble_eq_true rfl), (Nat.le_of_ble_eq_true rfl)⟩,
    mm_r_i2l X (show decode cL_undo 6 = .ok (.i2l, 1) by decide +kernel),
    mm_r_last X (show decode cL_undo 7 = .ok (.lastore, 1) by decide +kernel),
    mm_r_goto X (show decode cL_undo 8 = .ok (.goto 6, 3) by decide +kernel) (by decide),
    mm_r_astore_n X (show decode cL_undo 11 = .ok (.astore_n 2, 1) by decide +kernel) rfl (Nat.le_of_ble_eq_true rfl),
    mm_r_iconst X (show decode cL_undo 12 = .ok (.iconst 1, 1) by decide +kernel) rfl,
    mm_r_iret X hret (show decode cL_undo 13 = .ok (.ireturn, 1) by decide +kernel),
    mm_r_iconst X (show decode cL_undo 14 = .ok (.iconst 0, 1) by decide +kernel) rfl,
    mm_r_iret X hret (show decode cL_undo 15 = .ok (.ireturn, 1) by decide +kernel), trivial⟩
theorem sn_L_undo {l : Launch} (hl : l.stackTraces = false) : mm_Snd l yL_undo (.codeWith yL_undo cL_undo 3 (some .int) [(0, 8, 11, 21)]) 8 183 f_L_undo := mm_metH hl (by decide +kernel) (ok_L_undo hl)
/-! LinkcourtLaw.told(LLinkcourt;I[J)I -/
noncomputable def tb_L_told : List (Nat × mm_I) := [(0, mm_ldR 1 2), (1, mm_k 2 (.int 0)), (2, mm_ldR 3 0), (3, mm_ldI 4 1), (4, mm_clC 7 10 1 f_X10_told [(2, 13, 3)]), (7, mm_il 8 (fun a => a.toInt64)), (8, mm_astJ 9), (9, mm_go 15), (12, mm_stR 13 3), (13, mm_k 14 (.int 1)), (14, mm_rtI), (15, mm_k 16 (.int 0)), (16, mm_rtI)]
noncomputable def f_L_told : mm_F := mm_do (mm_pr tb_L_told) 4
theorem mn_L_told : mm_alln tb_L_told := ⟨mm_n_ldR _ _, mm_n_k _ _, mm_n_ldR _ _, mm_n_ldI _ _, mm_n_clC _ _ _ _ (mo_X10_told), mm_n_il _ _, mm_n_astJ _, mm_n_go _, mm_n_stR _ _, mm_n_k _ _, mm_n_rtI, mm_n_k _ _, mm_n_rtI, trivial⟩
theorem mo_L_told : mm_Mo f_L_told := mm_do_mo (mm_alln_mem mn_L_told)
set_option maxRecDepth 10000 in
theorem ok_L_told {l : Launch} (hl : l.stackTraces = false) : mm_OkH l yL_told cL_told 4 (some .int) [(0, 9, 12, 13)] 7 119 tb_L_told := by
  refine ⟨mm_alln_mem mn_L_told, fun p e cells slots s m args below meth c D tc A S ad Tg X hret htab => mm_allr_mem ?_⟩
  exact ⟨mm_r_aload_n X (show decode cL_told 0 = .ok (.aload_n 2, 1) by decide +kernel) rfl,
    mm_r_iconst X (show decode cL_told 1 = .ok (.iconst 0, 1) by decide +kernel) rfl,
    mm_r_aload_n X (show decode cL_told 2 = .ok (.aload_n 0, 1) by decide +kernel) rfl,
    mm_r_iload_n X (show decode cL_told 3 = .ok (.iload_n 1, 1) by decide +kernel) rfl,
    mm_r_clC X (ci := 10) (na := 1) (hs := [(2, 13, 3)]) htab ⟨⟨by decide, ⟨by decide, by decide⟩, by decide, mw_527, (Nat.le_of_ble_eq_true rfl), (Or.inl ⟨3, (show decode cL_told 12 = .ok (.astore_n 3, 1) by decide +kernel), rfl, rfl⟩)⟩, trivial⟩ (sn_X10_told hl) rfl (show decode cL_told 4 = .ok (.invokevirtual 30, 3) by decide +kernel) mw_725 mw_722 mw_723 mw_724 mw_93 hd_X10_told ⟨(Nat.le_of_ble_eq_true rfl), (Nat.le_of_ble_eq_true rfl)⟩,
    mm_r_i2l X (show decode cL_told 7 = .ok (.i2l, 1) by decide +kernel),
    mm_r_last X (show decode cL_told 8 = .ok (.lastore, 1) by decide +kernel),
    mm_r_goto X (show decode cL_told 9 = .ok (.goto 6, 3) by decide +kernel) (by decide),
    mm_r_astore_n X (show decode cL_told 12 = .ok (.astore_n 3, 1) by decide +kernel) rfl (Nat.le_of_ble_eq_true rfl),
    mm_r_iconst X (show decode cL_told 13 = .ok (.iconst 1, 1) by decide +kernel) rfl,
    mm_r_iret X hret (show decode cL_told 14 = .ok (.ireturn, 1) by decide +kernel),
    mm_r_iconst X (show decode cL_told 15 = .ok (.iconst 0, 1) by decide +kernel) rfl,
    mm_r_iret X hret (show decode cL_told 16 = .ok (.ireturn, 1) by decide +kernel), trivial⟩
theorem sn_L_told {l : Launch} (hl : l.stackTraces = false) : mm_Snd l yL_told (.codeWith yL_told cL_told 4 (some .int) [(0, 9, 12, 13)]) 7 119 f_L_told := mm_metH hl (by decide +kernel) (ok_L_told hl)
/-! LinkcourtLaw.cell(LLinkcourt;II[J)I -/
noncomputable def tb_L_cell : List (Nat × mm_I) := [(0, mm_ldR 1 3), (1, mm_k 2 (.int 0)), (2, mm_ldR 3 0), (3, mm_ldI 4 1), (4, mm_ldI 5 2), (5, mm_clC 8 10 2 f_X10_cell [(1, 15, 4), (2, 19, 4)]), (8, mm_il 9 (fun a => a.toInt64)), (9, mm_astJ 10), (10, mm_go 21), (13, mm_stR 15 4), (15, mm_k 16 (.int 1)), (16, mm_rtI), (17, mm_stR 19 4), (19, mm_k 20 (.int 2)), (20, mm_rtI), (21, mm_k 22 (.int 0)), (22, mm_rtI)]
noncomputable def f_L_cell : mm_F := mm_do (mm_pr tb_L_cell) 5
theorem mn_L_cell : mm_alln tb_L_cell := ⟨mm_n_ldR _ _, mm_n_k _ _, mm_n_ldR _ _, mm_n_ldI _ _, mm_n_ldI _ _, mm_n_clC _ _ _ _ (mo_X10_cell), mm_n_il _ _, mm_n_astJ _, mm_n_go _, mm_n_stR _ _, mm_n_k _ _, mm_n_rtI, mm_n_stR _ _, mm_n_k _ _, mm_n_rtI, mm_n_k _ _, mm_n_rtI, trivial⟩
theorem mo_L_cell : mm_Mo f_L_cell := mm_do_mo (mm_alln_mem mn_L_cell)
set_option maxRecDepth 10000 in
theorem ok_L_cell {l : Launch} (hl : l.stackTraces = false) : mm_OkH l yL_cell cL_cell 5 (some .int) [(0, 10, 13, 19), (0, 10, 17, 13)] 7 115 tb_L_cell := by
  refine ⟨mm_alln_mem mn_L_cell, fun p e cells slots s m args below meth c D tc A S ad Tg X hret htab => mm_allr_mem ?_⟩
  exact ⟨mm_r_aload_n X (show decode cL_cell 0 = .ok (.aload_n 3, 1) by decide +kernel) rfl,
    mm_r_iconst X (show decode cL_cell 1 = .ok (.iconst 0, 1) by decide +kernel) rfl,
    mm_r_aload_n X (show decode cL_cell 2 = .ok (.aload_n 0, 1) by decide +kernel) rfl,
    mm_r_iload_n X (show decode cL_cell 3 = .ok (.iload_n 1, 1) by decide +kernel) rfl,
    mm_r_iload_n X (show decode cL_cell 4 = .ok (.iload_n 2, 1) by decide +kernel) rfl,
    mm_r_clC X (ci := 10) (na := 2) (hs := [(1, 15, 4), (2, 19, 4)]) htab ⟨⟨by decide, ⟨by decide, by decide⟩, by decide, mw_620, (Nat.le_of_ble_eq_true rfl), (Or.inr ⟨(show decode cL_cell 13 = .ok (.astore 4, 2) by decide +kernel), rfl⟩)⟩, ⟨by decide, ⟨by decide, by decide⟩, by decide, mw_527, (Nat.le_of_ble_eq_true rfl), (Or.inr ⟨(show decode cL_cell 17 = .ok (.astore 4, 2) by decide +kernel), rfl⟩)⟩, trivial⟩ (sn_X10_cell hl) rfl (show decode cL_cell 5 = .ok (.invokevirtual 33, 3) by decide +kernel) mw_738 mw_735 mw_736 mw_737 mw_93 hd_X10_cell ⟨(Nat.le_of_ble_eq_true rfl), (Nat.le_of_ble_eq_true rfl)⟩,
    mm_r_i2l X (show decode cL_cell 8 = .ok (.i2l, 1) by decide +kernel),
    mm_r_last X (show decode cL_cell 9 = .ok (.lastore, 1) by decide +kernel),
    mm_r_goto X (show decode cL_cell 10 = .ok (.goto 11, 3) by decide +kernel) (by decide),
    mm_r_astore X (show decode cL_cell 13 = .ok (.astore 4, 2) by decide +kernel) (Nat.le_of_ble_eq_true rfl),
    mm_r_iconst X (show decode cL_cell 15 = .ok (.iconst 1, 1) by decide +kernel) rfl,
    mm_r_iret X hret (show decode cL_cell 16 = .ok (.ireturn, 1) by decide +kernel),
    mm_r_astore X (show decode cL_cell 17 = .ok (.astore 4, 2) by decide +kernel) (Nat.le_of_ble_eq_true rfl),
    mm_r_iconst X (show decode cL_cell 19 = .ok (.iconst 2, 1) by decide +kernel) rfl,
    mm_r_iret X hret (show decode cL_cell 20 = .ok (.ireturn, 1) by decide +kernel),
    mm_r_iconst X (show decode cL_cell 21 = .ok (.iconst 0, 1) by decide +kernel) rfl,
    mm_r_iret X hret (show decode cL_cell 22 = .ok (.ireturn, 1) by decide +kernel), trivial⟩
theorem sn_L_cell {l : Launch} (hl : l.stackTraces = false) : mm_Snd l yL_cell (.codeWith yL_cell cL_cell 5 (some .int) [(0, 10, 13, 19), (0, 10, 17, 13)]) 7 115 f_L_cell := mm_metH hl (by decide +kernel) (ok_L_cell hl)
/-! LinkcourtLaw.neighbour(LLinkcourt;II[J)I -/
noncomputable def tb_L_neighbour : List (Nat × mm_I) := [(0, mm_ldR 1 3), (1, mm_k 2 (.int 0)), (2, mm_ldR 3 0), (3, mm_ldI 4 1), (4, mm_ldI 5 2), (5, mm_clC 8 10 2 f_X10_neighbour [(1, 15, 4), (2, 19, 4)]), (8, mm_il 9 (fun a => a.toInt64)), (9, mm_astJ 10), (10, mm_go 21), (13, mm_stR 15 4), (15, mm_k 16 (.int 1)), (16, mm_rtI), (17, mm_stR 19 4), (19, mm_k 20 (.int 2)), (20, mm_rtI), (21, mm_k 22 (.int 0)), (22, mm_rtI)]
noncomputable def f_L_neighbour : mm_F := mm_do (mm_pr tb_L_neighbour) 5
theorem mn_L_neighbour : mm_alln tb_L_neighbour := ⟨mm_n_ldR _ _, mm_n_k _ _, mm_n_ldR _ _, mm_n_ldI _ _, mm_n_ldI _ _, mm_n_clC _ _ _ _ (mo_X10_neighbour), mm_n_il _ _, mm_n_astJ _, mm_n_go _, mm_n_stR _ _, mm_n_k _ _, mm_n_rtI, mm_n_stR _ _, mm_n_k _ _, mm_n_rtI, mm_n_k _ _, mm_n_rtI, trivial⟩
theorem mo_L_neighbour : mm_Mo f_L_neighbour := mm_do_mo (mm_alln_mem mn_L_neighbour)
set_option maxRecDepth 10000 in
theorem ok_L_neighbour {l : Launch} (hl : l.stackTraces = false) : mm_OkH l yL_neighbour cL_neighbour 5 (some .int) [(0, 10, 13, 19), (0, 10, 17, 13)] 7 112 tb_L_neighbour := by
  refine ⟨mm_alln_mem mn_L_neighbour, fun p e cells slots s m args below meth c D tc A S ad Tg X hret htab => mm_allr_mem ?_⟩
  exact ⟨mm_r_aload_n X (show decode cL_neighbour 0 = .ok (.aload_n 3, 1) by decide +kernel) rfl,
    mm_r_iconst X (show decode cL_neighbour 1 = .ok (.iconst 0, 1) by decide +kernel) rfl,
    mm_r_aload_n X (show decode cL_neighbour 2 = .ok (.aload_n 0, 1) by decide +kernel) rfl,
    mm_r_iload_n X (show decode cL_neighbour 3 = .ok (.iload_n 1, 1) by decide +kernel) rfl,
    mm_r_iload_n X (show decode cL_neighbour 4 = .ok (.iload_n 2, 1) by decide +kernel) rfl,
    mm_r_clC X (ci := 10) (na := 2) (hs := [(1, 15, 4), (2, 19, 4)]) htab ⟨⟨by decide, ⟨by decide, by decide⟩, by decide, mw_620, (Nat.le_of_ble_eq_true rfl), (Or.inr ⟨(show decode cL_neighbour 13 = .ok (.astore 4, 2) by decide +kernel), rfl⟩)⟩, ⟨by decide, ⟨by decide, by decide⟩, by decide, mw_527, (Nat.le_of_ble_eq_true rfl), (Or.inr ⟨(show decode cL_neighbour 17 = .ok (.astore 4, 2) by decide +kernel), rfl⟩)⟩, trivial⟩ (sn_X10_neighbour hl) rfl (show decode cL_neighbour 5 = .ok (.invokevirtual 37, 3) by decide +kernel) mw_768 mw_765 mw_766 mw_767 mw_93 hd_X10_neighbour ⟨(Nat.le_of_ble_eq_true rfl), (Nat.le_of_ble_eq_true rfl)⟩,
    mm_r_i2l X (show decode cL_neighbour 8 = .ok (.i2l, 1) by decide +kernel),
    mm_r_last X (show decode cL_neighbour 9 = .ok (.lastore, 1) by decide +kernel),
    mm_r_goto X (show decode cL_neighbour 10 = .ok (.goto 11, 3) by decide +kernel) (by decide),
    mm_r_astore X (show decode cL_neighbour 13 = .ok (.astore 4, 2) by decide +kernel) (Nat.le_of_ble_eq_true rfl),
    mm_r_iconst X (show decode cL_neighbour 15 = .ok (.iconst 1, 1) by decide +kernel) rfl,
    mm_r_iret X hret (show decode cL_neighbour 16 = .ok (.ireturn, 1) by decide +kernel),
    mm_r_astore X (show decode cL_neighbour 17 = .ok (.astore 4, 2) by decide +kernel) (Nat.le_of_ble_eq_true rfl),
    mm_r_iconst X (show decode cL_neighbour 19 = .ok (.iconst 2, 1) by decide +kernel) rfl,
    mm_r_iret X hret (show decode cL_neighbour 20 = .ok (.ireturn, 1) by decide +kernel),
    mm_r_iconst X (show decode cL_neighbour 21 = .ok (.iconst 0, 1) by decide +kernel) rfl,
    mm_r_iret X hret (show decode cL_neighbour 22 = .ok (.ireturn, 1) by decide +kernel), trivial⟩
theorem sn_L_neighbour {l : Launch} (hl : l.stackTraces = false) : mm_Snd l yL_neighbour (.codeWith yL_neighbour cL_neighbour 5 (some .int) [(0, 10, 13, 19), (0, 10, 17, 13)]) 7 112 f_L_neighbour := mm_metH hl (by decide +kernel) (ok_L_neighbour hl)
/-! LinkcourtLaw.best(LLinkcourt;[J)I -/
noncomputable def tb_L_best : List (Nat × mm_I) := [(0, mm_ldR 1 1), (1, mm_k 2 (.int 0)), (2, mm_ldR 3 0), (3, mm_clC 6 10 0 f_X10_best [(3, 12, 2)]), (6, mm_il 7 (fun a => a.toInt64)), (7, mm_astJ 8), (8, mm_go 14), (11, mm_stR 12 2), (12, mm_k 13 (.int 1)), (13, mm_rtI), (14, mm_k 15 (.int 0)), (15, mm_rtI)]
noncomputable def f_L_best : mm_F := mm_do (mm_pr tb_L_best) 3
theorem mn_L_best : mm_alln tb_L_best := ⟨mm_n_ldR _ _, mm_n_k _ _, mm_n_ldR _ _, mm_n_clC _ _ _ _ (mo_X10_best), mm_n_il _ _, mm_n_astJ _, mm_n_go _, mm_n_stR _ _, mm_n_k _ _, mm_n_rtI, mm_n_k _ _, mm_n_rtI, trivial⟩
theorem mo_L_best : mm_Mo f_L_best := mm_do_mo (mm_alln_mem mn_L_best)
set_option maxRecDepth 10000 in
theorem ok_L_best {l : Launch} (hl : l.stackTraces = false) : mm_OkH l yL_best cL_best 3 (some .int) [(0, 8, 11, 21)] 65 2657 tb_L_best := by
  refine ⟨mm_alln_mem mn_L_best, fun p e cells slots s m args below meth c D tc A S ad Tg X hret htab => mm_allr_mem ?_⟩
  exact ⟨mm_r_aload_n X (show decode cL_best 0 = .ok (.aload_n 1, 1) by decide +kernel) rfl,
    mm_r_iconst X (show decode cL_best 1 = .ok (.iconst 0, 1) by decide +kernel) rfl,
    mm_r_aload_n X (show decode cL_best 2 = .ok (.aload_n 0, 1) by decide +kernel) rfl,
    mm_r_clC X (ci := 10) (na := 0) (hs := [(3, 12, 2)]) htab ⟨⟨by decide, ⟨by decide, by decide⟩, by decide, mw_621, (Nat.le_of_ble_eq_true rfl), (Or.inl ⟨2, (show decode cL_best 11 = .ok (.astore_n 2, 1) by decide +kernel), rfl, rfl⟩)⟩, trivial⟩ (sn_X10_best hl) rfl (show decode cL_best 3 = .ok (.invokevirtual 40, 3) by decide +kernel) mw_781 mw_778 mw_779 mw_780 mw_93 hd_X10_best ⟨(Nat.le_of_ble_eq_true rfl), (Nat.le_of_ble_eq_true rfl)⟩,
    mm_r_i2l X (show decode cL_best 6 = .ok (.i2l, 1) by decide +kernel),
    mm_r_last X (show decode cL_best 7 = .ok (.lastore, 1) by decide +kernel),
    mm_r_goto X (show decode cL_best 8 = .ok (.goto 6, 3) by decide +kernel) (by decide),
    mm_r_astore_n X (show decode cL_best 11 = .ok (.astore_n 2, 1) by decide +kernel) rfl (Nat.le_of_ble_eq_true rfl),
    mm_r_iconst X (show decode cL_best 12 = .ok (.iconst 1, 1) by decide +kernel) rfl,
    mm_r_iret X hret (show decode cL_best 13 = .ok (.ireturn, 1) by decide +kernel),
    mm_r_iconst X (show decode cL_best 14 = .ok (.iconst 0, 1) by decide +kernel) rfl,
    mm_r_iret X hret (show decode cL_best 15 = .ok (.ireturn, 1) by decide +kernel), trivial⟩
theorem sn_L_best {l : Launch} (hl : l.stackTraces = false) : mm_Snd l yL_best (.codeWith yL_best cL_best 3 (some .int) [(0, 8, 11, 21)]) 65 2657 f_L_best := mm_metH hl (by decide +kernel) (ok_L_best hl)
/-! LinkcourtLaw.wins(LLinkcourt;[J)I -/
noncomputable def tb_L_wins : List (Nat × mm_I) := [(0, mm_ldR 1 1), (1, mm_k 2 (.int 0)), (2, mm_ldR 3 0), (3, mm_clC 6 10 0 f_X10_wins [(3, 11, 2)]), (6, mm_astJ 7), (7, mm_go 13), (10, mm_stR 11 2), (11, mm_k 12 (.int 1)), (12, mm_rtI), (13, mm_k 14 (.int 0)), (14, mm_rtI)]
noncomputable def f_L_wins : mm_F := mm_do (mm_pr tb_L_wins) 3
theorem mn_L_wins : mm_alln tb_L_wins := ⟨mm_n_ldR _ _, mm_n_k _ _, mm_n_ldR _ _, mm_n_clC _ _ _ _ (mo_X10_wins), mm_n_astJ _, mm_n_go _, mm_n_stR _ _, mm_n_k _ _, mm_n_rtI, mm_n_k _ _, mm_n_rtI, trivial⟩
theorem mo_L_wins : mm_Mo f_L_wins := mm_do_mo (mm_alln_mem mn_L_wins)
set_option maxRecDepth 10000 in
theorem ok_L_wins {l : Launch} (hl : l.stackTraces = false) : mm_OkH l yL_wins cL_wins 3 (some .int) [(0, 7, 10, 21)] 64 2630 tb_L_wins := by
  refine ⟨mm_alln_mem mn_L_wins, fun p e cells slots s m args below meth c D tc A S ad Tg X hret htab => mm_allr_mem ?_⟩
  exact ⟨mm_r_aload_n X (show decode cL_wins 0 = .ok (.aload_n 1, 1) by decide +kernel) rfl,
    mm_r_iconst X (show decode cL_wins 1 = .ok (.iconst 0, 1) by decide +kernel) rfl,
    mm_r_aload_n X (show decode cL_wins 2 = .ok (.aload_n 0, 1) by decide +kernel) rfl,
    mm_r_clC X (ci := 10) (na := 0) (hs := [(3, 11, 2)]) htab ⟨⟨by decide, ⟨by decide, by decide⟩, by decide, mw_621, (Nat.le_of_ble_eq_true rfl), (Or.inl ⟨2, (show decode cL_wins 10 = .ok (.astore_n 2, 1) by decide +kernel), rfl, rfl⟩)⟩, trivial⟩ (sn_X10_wins hl) rfl (show decode cL_wins 3 = .ok (.invokevirtual 43, 3) by decide +kernel) mw_843 mw_840 mw_841 mw_842 mw_93 hd_X10_wins ⟨(Nat.le_of_ble_eq_true rfl), (Nat.le_of_ble_eq_true rfl)⟩,
    mm_r_last X (show decode cL_wins 6 = .ok (.lastore, 1) by decide +kernel),
    mm_r_goto X (show decode cL_wins 7 = .ok (.goto 6, 3) by decide +kernel) (by decide),
    mm_r_astore_n X (show decode cL_wins 10 = .ok (.astore_n 2, 1) by decide +kernel) rfl (Nat.le_of_ble_eq_true rfl),
    mm_r_iconst X (show decode cL_wins 11 = .ok (.iconst 1, 1) by decide +kernel) rfl,
    mm_r_iret X hret (show decode cL_wins 12 = .ok (.ireturn, 1) by decide +kernel),
    mm_r_iconst X (show decode cL_wins 13 = .ok (.iconst 0, 1) by decide +kernel) rfl,
    mm_r_iret X hret (show decode cL_wins 14 = .ok (.ireturn, 1) by decide +kernel), trivial⟩
theorem sn_L_wins {l : Launch} (hl : l.stackTraces = false) : mm_Snd l yL_wins (.codeWith yL_wins cL_wins 3 (some .int) [(0, 7, 10, 21)]) 64 2630 f_L_wins := mm_metH hl (by decide +kernel) (ok_L_wins hl)
/-! LinkcourtLaw.lasts(LLinkcourt;[J)I -/
noncomputable def tb_L_lasts : List (Nat × mm_I) := [(0, mm_ldR 1 1), (1, mm_k 2 (.int 0)), (2, mm_ldR 3 0), (3, mm_clC 6 10 0 f_X10_lasts [(3, 12, 2)]), (6, mm_il 7 (fun a => a.toInt64)), (7, mm_astJ 8), (8, mm_go 14), (11, mm_stR 12 2), (12, mm_k 13 (.int 1)), (13, mm_rtI), (14, mm_k 15 (.int 0)), (15, mm_rtI)]
noncomputable def f_L_lasts : mm_F := mm_do (mm_pr tb_L_lasts) 3
theorem mn_L_lasts : mm_alln tb_L_lasts := ⟨mm_n_ldR _ _, mm_n_k _ _, mm_n_ldR _ _, mm_n_clC _ _ _ _ (mo_X10_lasts), mm_n_il _ _, mm_n_astJ _, mm_n_go _, mm_n_stR _ _, mm_n_k _ _, mm_n_rtI, mm_n_k _ _, mm_n_rtI, trivial⟩
theorem mo_L_lasts : mm_Mo f_L_lasts := mm_do_mo (mm_alln_mem mn_L_lasts)
set_option maxRecDepth 10000 in
theorem ok_L_lasts {l : Launch} (hl : l.stackTraces = false) : mm_OkH l yL_lasts cL_lasts 3 (some .int) [(0, 8, 11, 21)] 65 2656 tb_L_lasts := by
  refine ⟨mm_alln_mem mn_L_lasts, fun p e cells slots s m args below meth c D tc A S ad Tg X hret htab => mm_allr_mem ?_⟩
  exact ⟨mm_r_aload_n X (show decode cL_lasts 0 = .ok (.aload_n 1, 1) by decide +kernel) rfl,
    mm_r_iconst X (show decode cL_lasts 1 = .ok (.iconst 0, 1) by decide +kernel) rfl,
    mm_r_aload_n X (show decode cL_lasts 2 = .ok (.aload_n 0, 1) by decide +kernel) rfl,
    mm_r_clC X (ci := 10) (na := 0) (hs := [(3, 12, 2)]) htab ⟨⟨by decide, ⟨by decide, by decide⟩, by decide, mw_621, (Nat.le_of_ble_eq_true rfl), (Or.inl ⟨2, (show decode cL_lasts 11 = .ok (.astore_n 2, 1) by decide +kernel), rfl, rfl⟩)⟩, trivial⟩ (sn_X10_lasts hl) rfl (show decode cL_lasts 3 = .ok (.invokevirtual 47, 3) by decide +kernel) mw_854 mw_851 mw_852 mw_853 mw_93 hd_X10_lasts ⟨(Nat.le_of_ble_eq_true rfl), (Nat.le_of_ble_eq_true rfl)⟩,
    mm_r_i2l X (show decode cL_lasts 6 = .ok (.i2l, 1) by decide +kernel),
    mm_r_last X (show decode cL_lasts 7 = .ok (.lastore, 1) by decide +kernel),
    mm_r_goto X (show decode cL_lasts 8 = .ok (.goto 6, 3) by decide +kernel) (by decide),
    mm_r_astore_n X (show decode cL_lasts 11 = .ok (.astore_n 2, 1) by decide +kernel) rfl (Nat.le_of_ble_eq_true rfl),
    mm_r_iconst X (show decode cL_lasts 12 = .ok (.iconst 1, 1) by decide +kernel) rfl,
    mm_r_iret X hret (show decode cL_lasts 13 = .ok (.ireturn, 1) by decide +kernel),
    mm_r_iconst X (show decode cL_lasts 14 = .ok (.iconst 0, 1) by decide +kernel) rfl,
    mm_r_iret X hret (show decode cL_lasts 15 = .ok (.ireturn, 1) by decide +kernel), trivial⟩
theorem sn_L_lasts {l : Launch} (hl : l.stackTraces = false) : mm_Snd l yL_lasts (.codeWith yL_lasts cL_lasts 3 (some .int) [(0, 8, 11, 21)]) 65 2656 f_L_lasts := mm_metH hl (by decide +kernel) (ok_L_lasts hl)
/-! LinkcourtLaw.dead(LLinkcourt;[J)I -/
noncomputable def tb_L_dead : List (Nat × mm_I) := [(0, mm_ldR 1 1), (1, mm_k 2 (.int 0)), (2, mm_ldR 3 0), (3, mm_clC 6 10 0 f_X10_dead [(3, 11, 2)]), (6, mm_astJ 7), (7, mm_go 13), (10, mm_stR 11 2), (11, mm_k 12 (.int 1)), (12, mm_rtI), (13, mm_k 14 (.int 0)), (14, mm_rtI)]
noncomputable def f_L_dead : mm_F := mm_do (mm_pr tb_L_dead) 3
theorem mn_L_dead : mm_alln tb_L_dead := ⟨mm_n_ldR _ _, mm_n_k _ _, mm_n_ldR _ _, mm_n_clC _ _ _ _ (mo_X10_dead), mm_n_astJ _, mm_n_go _, mm_n_stR _ _, mm_n_k _ _, mm_n_rtI, mm_n_k _ _, mm_n_rtI, trivial⟩
theorem mo_L_dead : mm_Mo f_L_dead := mm_do_mo (mm_alln_mem mn_L_dead)
set_option maxRecDepth 10000 in
theorem ok_L_dead {l : Launch} (hl : l.stackTraces = false) : mm_OkH l yL_dead cL_dead 3 (some .int) [(0, 7, 10, 21)] 8 197 tb_L_dead := by
  refine ⟨mm_alln_mem mn_L_dead, fun p e cells slots s m args below meth c D tc A S ad Tg X hret htab => mm_allr_mem ?_⟩
  exact ⟨mm_r_aload_n X (show decode cL_dead 0 = .ok (.aload_n 1, 1) by decide +kernel) rfl,
    mm_r_iconst X (show decode cL_dead 1 = .ok (.iconst 0, 1) by decide +kernel) rfl,
    mm_r_aload_n X (show decode cL_dead 2 = .ok (.aload_n 0, 1) by decide +kernel) rfl,
    mm_r_clC X (ci := 10) (na := 0) (hs := [(3, 11, 2)]) htab ⟨⟨by decide, ⟨by decide, by decide⟩, by decide, mw_621, (Nat.le_of_ble_eq_true rfl), (Or.inl ⟨2, (show decode cL_dead 10 = .ok (.astore_n 2, 1) by decide +kernel), rfl, rfl⟩)⟩, trivial⟩ (sn_X10_dead hl) rfl (show decode cL_dead 3 = .ok (.invokevirtual 50, 3) by decide +kernel) mw_868 mw_865 mw_866 mw_867 mw_93 hd_X10_dead ⟨(Nat.le_of_ble_eq_true rfl), (Nat.le_of_ble_eq_true rfl)⟩,
    mm_r_last X (show decode cL_dead 6 = .ok (.lastore, 1) by decide +kernel),
    mm_r_goto X (show decode cL_dead 7 = .ok (.goto 6, 3) by decide +kernel) (by decide),
    mm_r_astore_n X (show decode cL_dead 10 = .ok (.astore_n 2, 1) by decide +kernel) rfl (Nat.le_of_ble_eq_true rfl),
    mm_r_iconst X (show decode cL_dead 11 = .ok (.iconst 1, 1) by decide +kernel) rfl,
    mm_r_iret X hret (show decode cL_dead 12 = .ok (.ireturn, 1) by decide +kernel),
    mm_r_iconst X (show decode cL_dead 13 = .ok (.iconst 0, 1) by decide +kernel) rfl,
    mm_r_iret X hret (show decode cL_dead 14 = .ok (.ireturn, 1) by decide +kernel), trivial⟩
theorem sn_L_dead {l : Launch} (hl : l.stackTraces = false) : mm_Snd l yL_dead (.codeWith yL_dead cL_dead 3 (some .int) [(0, 7, 10, 21)]) 8 197 f_L_dead := mm_metH hl (by decide +kernel) (ok_L_dead hl)
/-! LinkcourtLaw.carrier(LLinkcourt;III[J)I -/
noncomputable def tb_L_carrier : List (Nat × mm_I) := [(0, mm_ldR 2 4), (2, mm_k 3 (.int 0)), (3, mm_ldR 4 0), (4, mm_ldI 5 1), (5, mm_ldI 6 2), (6, mm_ldI 7 3), (7, mm_clC 10 10 3 f_X10_carrier [(1, 16, 5), (2, 20, 5), (3, 24, 5)]), (10, mm_astJ 11), (11, mm_go 26), (14, mm_stR 16 5), (16, mm_k 17 (.int 1)), (17, mm_rtI), (18, mm_stR 20 5), (20, mm_k 21 (.int 2)), (21, mm_rtI), (22, mm_stR 24 5), (24, mm_k 25 (.int 3)), (25, mm_rtI), (26, mm_k 27 (.int 0)), (27, mm_rtI)]
noncomputable def f_L_carrier : mm_F := mm_do (mm_pr tb_L_carrier) 6
theorem mn_L_carrier : mm_alln tb_L_carrier := ⟨mm_n_ldR _ _, mm_n_k _ _, mm_n_ldR _ _, mm_n_ldI _ _, mm_n_ldI _ _, mm_n_ldI _ _, mm_n_clC _ _ _ _ (mo_X10_carrier), mm_n_astJ _, mm_n_go _, mm_n_stR _ _, mm_n_k _ _, mm_n_rtI, mm_n_stR _ _, mm_n_k _ _, mm_n_rtI, mm_n_stR _ _, mm_n_k _ _, mm_n_rtI, mm_n_k _ _, mm_n_rtI, trivial⟩
theorem mo_L_carrier : mm_Mo f_L_carrier := mm_do_mo (mm_alln_mem mn_L_carrier)
set_option maxRecDepth 10000 in
theorem ok_L_carrier {l : Launch} (hl : l.stackTraces = false) : mm_OkH l yL_carrier cL_carrier 6 (some .int) [(0, 11, 14, 19), (0, 11, 18, 13), (0, 11, 22, 21)] 76 2879 tb_L_carrier := by
  refine ⟨mm_alln_mem mn_L_carrier, fun p e cells slots s m args below meth c D tc A S ad Tg X hret htab => mm_allr_mem ?_⟩
  exact ⟨mm_r_aload X (show decode cL_carrier 0 = .ok (.aload 4, 2) by decide +kernel),
    mm_r_iconst X (show decode cL_carrier 2 = .ok (.iconst 0, 1) by decide +kernel) rfl,
    mm_r_aload_n X (show decode cL_carrier 3 = .ok (.aload_n 0, 1) by decide +kernel) rfl,
    mm_r_iload_n X (show decode cL_carrier 4 = .ok (.iload_n 1, 1) by decide +kernel) rfl,
    mm_r_iload_n X (show decode cL_carrier 5 = .ok (.iload_n 2, 1) by decide +kernel) rfl,
    mm_r_iload_n X (show decode cL_carrier 6 = .ok (.iload_n 3, 1) by decide +kernel) rfl,
    mm_r_clC X (ci := 10) (na := 3) (hs := [(1, 16, 5), (2, 20, 5), (3, 24, 5)]) htab ⟨⟨by decide, ⟨by decide, by decide⟩, by decide, mw_620, (Nat.le_of_ble_eq_true rfl), (Or.inr ⟨(show decode cL_carrier 14 = .ok (.astore 5, 2) by decide +kernel), rfl⟩)⟩, ⟨by decide, ⟨by decide, by decide⟩, by decide, mw_527, (Nat.le_of_ble_eq_true rfl), (Or.inr ⟨(show decode cL_carrier 18 = .ok (.astore 5, 2) by decide +kernel), rfl⟩)⟩, ⟨by decide, ⟨by decide, by decide⟩, by decide, mw_621, (Nat.le_of_ble_eq_true rfl), (Or.inr ⟨(show decode cL_carrier 22 = .ok (.astore 5, 2) by decide +kernel), rfl⟩)⟩, trivial⟩ (sn_X10_carrier hl) rfl (show decode cL_carrier 7 = .ok (.invokevirtual 53, 3) by decide +kernel) mw_879 mw_876 mw_877 mw_878 mw_93 hd_X10_carrier ⟨(Nat.le_of_ble_eq_true rfl), (Nat.le_of_ble_eq_true rfl)⟩,
    mm_r_last X (show decode cL_carrier 10 = .ok (.lastore, 1) by decide +kernel),
    mm_r_goto X (show decode cL_carrier 11 = .ok (.goto 15, 3) by decide +kernel) (by decide),
    mm_r_astore X (show decode cL_carrier 14 = .ok (.astore 5, 2) by decide +kernel) (Nat.le_of_ble_eq_true rfl),
    mm_r_iconst X (show decode cL_carrier 16 = .ok (.iconst 1, 1) by decide +kernel) rfl,
    mm_r_iret X hret (show decode cL_carrier 17 = .ok (.ireturn, 1) by decide +kernel),
    mm_r_astore X (show decode cL_carrier 18 = .ok (.astore 5, 2) by decide +kernel) (Nat.le_of_ble_eq_true rfl),
    mm_r_iconst X (show decode cL_carrier 20 = .ok (.iconst 2, 1) by decide +kernel) rfl,
    mm_r_iret X hret (show decode cL_carrier 21 = .ok (.ireturn, 1) by decide +kernel),
    mm_r_astore X (show decode cL_carrier 22 = .ok (.astore 5, 2) by decide +kernel) (Nat.le_of_ble_eq_true rfl),
    mm_r_iconst X (show decode cL_carrier 24 = .ok (.iconst 3, 1) by decide +kernel) rfl,
    mm_r_iret X hret (show decode cL_carrier 25 = .ok (.ireturn, 1) by decide +kernel),
    mm_r_iconst X (show decode cL_carrier 26 = .ok (.iconst 0, 1) by decide +kernel) rfl,
    mm_r_iret X hret (show decode cL_carrier 27 = .ok (.ireturn, 1) by decide +kernel), trivial⟩
theorem sn_L_carrier {l : Launch} (hl : l.stackTraces = false) : mm_Snd l yL_carrier (.codeWith yL_carrier cL_carrier 6 (some .int) [(0, 11, 14, 19), (0, 11, 18, 13), (0, 11, 22, 21)]) 76 2879 f_L_carrier := mm_metH hl (by decide +kernel) (ok_L_carrier hl)
/-! LinkcourtLaw.answer(LLinkcourt;IIII[J)I -/
noncomputable def tb_L_answer : List (Nat × mm_I) := [(0, mm_ldR 2 5), (2, mm_k 3 (.int 0)), (3, mm_ldR 4 0), (4, mm_ldI 5 1), (5, mm_ldI 6 2), (6, mm_ldI 7 3), (7, mm_ldI 9 4), (9, mm_clC 12 10 4 f_X10_answer [(1, 19, 6), (2, 23, 6), (3, 27, 6)]), (12, mm_il 13 (fun a => a.toInt64)), (13, mm_astJ 14), (14, mm_go 29), (17, mm_stR 19 6), (19, mm_k 20 (.int 1)), (20, mm_rtI), (21, mm_stR 23 6), (23, mm_k 24 (.int 2)), (24, mm_rtI), (25, mm_stR 27 6), (27, mm_k 28 (.int 3)), (28, mm_rtI), (29, mm_k 30 (.int 0)), (30, mm_rtI)]
noncomputable def f_L_answer : mm_F := mm_do (mm_pr tb_L_answer) 7
theorem mn_L_answer : mm_alln tb_L_answer := ⟨mm_n_ldR _ _, mm_n_k _ _, mm_n_ldR _ _, mm_n_ldI _ _, mm_n_ldI _ _, mm_n_ldI _ _, mm_n_ldI _ _, mm_n_clC _ _ _ _ (mo_X10_answer), mm_n_il _ _, mm_n_astJ _, mm_n_go _, mm_n_stR _ _, mm_n_k _ _, mm_n_rtI, mm_n_stR _ _, mm_n_k _ _, mm_n_rtI, mm_n_stR _ _, mm_n_k _ _, mm_n_rtI, mm_n_k _ _, mm_n_rtI, trivial⟩
theorem mo_L_answer : mm_Mo f_L_answer := mm_do_mo (mm_alln_mem mn_L_answer)
set_option maxRecDepth 10000 in
theorem ok_L_answer {l : Launch} (hl : l.stackTraces = false) : mm_OkH l yL_answer cL_answer 7 (some .int) [(0, 14, 17, 19), (0, 14, 21, 13), (0, 14, 25, 21)] 76 2882 tb_L_answer := by
  refine ⟨mm_alln_mem mn_L_answer, fun p e cells slots s m args below meth c D tc A S ad Tg X hret htab => mm_allr_mem ?_⟩
  exact ⟨mm_r_aload X (show decode cL_answer 0 = .ok (.aload 5, 2) by decide +kernel),
    mm_r_iconst X (show decode cL_answer 2 = .ok (.iconst 0, 1) by decide +kernel) rfl,
    mm_r_aload_n X (show decode cL_answer 3 = .ok (.aload_n 0, 1) by decide +kernel) rfl,
    mm_r_iload_n X (show decode cL_answer 4 = .ok (.iload_n 1, 1) by decide +kernel) rfl,
    mm_r_iload_n X (show decode cL_answer 5 = .ok (.iload_n 2, 1) by decide +kernel) rfl,
    mm_r_iload_n X (show decode cL_answer 6 = .ok (.iload_n 3, 1) by decide +kernel) rfl,
    mm_r_iload X (show decode cL_answer 7 = .ok (.iload 4, 2) by decide +kernel),
    mm_r_clC X (ci := 10) (na := 4) (hs := [(1, 19, 6), (2, 23, 6), (3, 27, 6)]) htab ⟨⟨by decide, ⟨by decide, by decide⟩, by decide, mw_620, (Nat.le_of_ble_eq_true rfl), (Or.inr ⟨(show decode cL_answer 17 = .ok (.astore 6, 2) by decide +kernel), rfl⟩)⟩, ⟨by decide, ⟨by decide, by decide⟩, by decide, mw_527, (Nat.le_of_ble_eq_true rfl), (Or.inr ⟨(show decode cL_answer 21 = .ok (.astore 6, 2) by decide +kernel), rfl⟩)⟩, ⟨by decide, ⟨by decide, by decide⟩, by decide, mw_621, (Nat.le_of_ble_eq_true rfl), (Or.inr ⟨(show decode cL_answer 25 = .ok (.astore 6, 2) by decide +kernel), rfl⟩)⟩, trivial⟩ (sn_X10_answer hl) rfl (show decode cL_answer 9 = .ok (.invokevirtual 57, 3) by decide +kernel) mw_940 mw_937 mw_938 mw_939 mw_93 hd_X10_answer ⟨(Nat.le_of_ble_eq_true rfl), (Nat.le_of_ble_eq_true rfl)⟩,
    mm_r_i2l X (show decode cL_answer 12 = .ok (.i2l, 1) by decide +kernel),
    mm_r_last X (show decode cL_answer 13 = .ok (.lastore, 1) by decide +kernel),
    mm_r_goto X (show decode cL_answer 14 = .ok (.goto 15, 3) by decide +kernel) (by decide),
    mm_r_astore X (show decode cL_answer 17 = .ok (.astore 6, 2) by decide +kernel) (Nat.le_of_ble_eq_true rfl),
    mm_r_iconst X (show decode cL_answer 19 = .ok (.iconst 1, 1) by decide +kernel) rfl,
    mm_r_iret X hret (show decode cL_answer 20 = .ok (.ireturn, 1) by decide +kernel),
    mm_r_astore X (show decode cL_answer 21 = .ok (.astore 6, 2) by decide +kernel) (Nat.le_of_ble_eq_true rfl),
    mm_r_iconst X (show decode cL_answer 23 = .ok (.iconst 2, 1) by decide +kernel) rfl,
    mm_r_iret X hret (show decode cL_answer 24 = .ok (.ireturn, 1) by decide +kernel),
    mm_r_astore X (show decode cL_answer 25 = .ok (.astore 6, 2) by decide +kernel) (Nat.le_of_ble_eq_true rfl),
    mm_r_iconst X (show decode cL_answer 27 = .ok (.iconst 3, 1) by decide +kernel) rfl,
    mm_r_iret X hret (show decode cL_answer 28 = .ok (.ireturn, 1) by decide +kernel),
    mm_r_iconst X (show decode cL_answer 29 = .ok (.iconst 0, 1) by decide +kernel) rfl,
    mm_r_iret X hret (show decode cL_answer 30 = .ok (.ireturn, 1) by decide +kernel), trivial⟩
theorem sn_L_answer {l : Launch} (hl : l.stackTraces = false) : mm_Snd l yL_answer (.codeWith yL_answer cL_answer 7 (some .int) [(0, 14, 17, 19), (0, 14, 21, 13), (0, 14, 25, 21)]) 76 2882 f_L_answer := mm_metH hl (by decide +kernel) (ok_L_answer hl)
/-! LinkcourtLaw.gaveAway(LLinkcourt;I[J)I -/
noncomputable def tb_L_gaveAway : List (Nat × mm_I) := [(0, mm_ldR 1 2), (1, mm_k 2 (.int 0)), (2, mm_ldR 3 0), (3, mm_ldI 4 1), (4, mm_clC 7 10 1 f_X10_gaveAway [(1, 20, 3), (2, 23, 3), (3, 26, 3)]), (7, mm_eq1 14 10), (10, mm_k 11 (.long 1)), (11, mm_go 15), (14, mm_k 15 (.long 0)), (15, mm_astJ 16), (16, mm_go 28), (19, mm_stR 20 3), (20, mm_k 21 (.int 1)), (21, mm_rtI), (22, mm_stR 23 3), (23, mm_k 24 (.int 2)), (24, mm_rtI), (25, mm_stR 26 3), (26, mm_k 27 (.int 3)), (27, mm_rtI), (28, mm_k 29 (.int 0)), (29, mm_rtI)]
noncomputable def f_L_gaveAway : mm_F := mm_do (mm_pr tb_L_gaveAway) 4
theorem mn_L_gaveAway : mm_alln tb_L_gaveAway := ⟨mm_n_ldR _ _, mm_n_k _ _, mm_n_ldR _ _, mm_n_ldI _ _, mm_n_clC _ _ _ _ (mo_X10_gaveAway), mm_n_eq1 _ _, mm_n_k _ _, mm_n_go _, mm_n_k _ _, mm_n_astJ _, mm_n_go _, mm_n_stR _ _, mm_n_k _ _, mm_n_rtI, mm_n_stR _ _, mm_n_k _ _, mm_n_rtI, mm_n_stR _ _, mm_n_k _ _, mm_n_rtI, mm_n_k _ _, mm_n_rtI, trivial⟩
theorem mo_L_gaveAway : mm_Mo f_L_gaveAway := mm_do_mo (mm_alln_mem mn_L_gaveAway)
set_option maxRecDepth 10000 in
theorem ok_L_gaveAway {l : Launch} (hl : l.stackTraces = false) : mm_OkH l yL_gaveAway cL_gaveAway 4 (some .int) [(0, 16, 19, 19), (0, 16, 22, 13), (0, 16, 25, 21)] 65 2667 tb_L_gaveAway := by
  refine ⟨mm_alln_mem mn_L_gaveAway, fun p e cells slots s m args below meth c D tc A S ad Tg X hret htab => mm_allr_mem ?_⟩
  exact ⟨mm_r_aload_n X (show decode cL_gaveAway 0 = .ok (.aload_n 2, 1) by decide +kernel) rfl,
    mm_r_iconst X (show decode cL_gaveAway 1 = .ok (.iconst 0, 1) by decide +kernel) rfl,
    mm_r_aload_n X (show decode cL_gaveAway 2 = .ok (.aload_n 0, 1) by decide +kernel) rfl,
    mm_r_iload_n X (show decode cL_gaveAway 3 = .ok (.iload_n 1, 1) by decide +kernel) rfl,
    mm_r_clC X (ci := 10) (na := 1) (hs := [(1, 20, 3), (2, 23, 3), (3, 26, 3)]) htab ⟨⟨by decide, ⟨by decide, by decide⟩, by decide, mw_620, (Nat.le_of_ble_eq_true rfl), (Or.inl ⟨3, (show decode cL_gaveAway 19 = .ok (.astore_n 3, 1) by decide +kernel), rfl, rfl⟩)⟩, ⟨by decide, ⟨by decide, by decide⟩, by decide, mw_527, (Nat.le_of_ble_eq_true rfl), (Or.inl ⟨3, (show decode cL_gaveAway 22 = .ok (.astore_n 3, 1) by decide +kernel), rfl, rfl⟩)⟩, ⟨by decide, ⟨by decide, by decide⟩, by decide, mw_621, (Nat.le_of_ble_eq_true rfl), (Or.inl ⟨3, (show decode cL_gaveAway 25 = .ok (.astore_n 3, 1) by decide +kernel), rfl, rfl⟩)⟩, trivial⟩ (sn_X10_gaveAway hl) rfl (show decode cL_gaveAway 4 = .ok (.invokevirtual 61, 3) by decide +kernel) mw_960 mw_957 mw_958 mw_959 mw_93 hd_X10_gaveAway ⟨(Nat.le_of_ble_eq_true rfl), (Nat.le_of_ble_eq_true rfl)⟩,
    mm_r_eq1 X (show decode cL_gaveAway 7 = .ok (.ifCond .eq 7, 3) by decide +kernel) (by decide),
    mm_r_lconst X (show decode cL_gaveAway 10 = .ok (.lconst 1, 1) by decide +kernel) rfl,
    mm_r_goto X (show decode cL_gaveAway 11 = .ok (.goto 4, 3) by decide +kernel) (by decide),
    mm_r_lconst X (show decode cL_gaveAway 14 = .ok (.lconst 0, 1) by decide +kernel) rfl,
    mm_r_last X (show decode cL_gaveAway 15 = .ok (.lastore, 1) by decide +kernel),
    mm_r_goto X (show decode cL_gaveAway 16 = .ok (.goto 12, 3) by decide +kernel) (by decide),
    mm_r_astore_n X (show decode cL_gaveAway 19 = .ok (.astore_n 3, 1) by decide +kernel) rfl (Nat.le_of_ble_eq_true rfl),
    mm_r_iconst X (show decode cL_gaveAway 20 = .ok (.iconst 1, 1) by decide +kernel) rfl,
    mm_r_iret X hret (show decode cL_gaveAway 21 = .ok (.ireturn, 1) by decide +kernel),
    mm_r_astore_n X (show decode cL_gaveAway 22 = .ok (.astore_n 3, 1) by decide +kernel) rfl (Nat.le_of_ble_eq_true rfl),
    mm_r_iconst X (show decode cL_gaveAway 23 = .ok (.iconst 2, 1) by decide +kernel) rfl,
    mm_r_iret X hret (show decode cL_gaveAway 24 = .ok (.ireturn, 1) by decide +kernel),
    mm_r_astore_n X (show decode cL_gaveAway 25 = .ok (.astore_n 3, 1) by decide +kernel) rfl (Nat.le_of_ble_eq_true rfl),
    mm_r_iconst X (show decode cL_gaveAway 26 = .ok (.iconst 3, 1) by decide +kernel) rfl,
    mm_r_iret X hret (show decode cL_gaveAway 27 = .ok (.ireturn, 1) by decide +kernel),
    mm_r_iconst X (show decode cL_gaveAway 28 = .ok (.iconst 0, 1) by decide +kernel) rfl,
    mm_r_iret X hret (show decode cL_gaveAway 29 = .ok (.ireturn, 1) by decide +kernel), trivial⟩
theorem sn_L_gaveAway {l : Launch} (hl : l.stackTraces = false) : mm_Snd l yL_gaveAway (.codeWith yL_gaveAway cL_gaveAway 4 (some .int) [(0, 16, 19, 19), (0, 16, 22, 13), (0, 16, 25, 21)]) 65 2667 f_L_gaveAway := mm_metH hl (by decide +kernel) (ok_L_gaveAway hl)
/-! LinkcourtLaw.far(LLinkcourt;I[J)I -/
noncomputable def tb_L_far : List (Nat × mm_I) := [(0, mm_ldR 1 2), (1, mm_k 2 (.int 0)), (2, mm_ldR 3 0), (3, mm_ldI 4 1), (4, mm_clC 7 10 1 f_X10_far [(1, 13, 3), (3, 16, 3)]), (7, mm_il 8 (fun a => a.toInt64)), (8, mm_astJ 9), (9, mm_go 18), (12, mm_stR 13 3), (13, mm_k 14 (.int 1)), (14, mm_rtI), (15, mm_stR 16 3), (16, mm_k 17 (.int 2)), (17, mm_rtI), (18, mm_k 19 (.int 0)), (19, mm_rtI)]
noncomputable def f_L_far : mm_F := mm_do (mm_pr tb_L_far) 4
theorem mn_L_far : mm_alln tb_L_far := ⟨mm_n_ldR _ _, mm_n_k _ _, mm_n_ldR _ _, mm_n_ldI _ _, mm_n_clC _ _ _ _ (mo_X10_far), mm_n_il _ _, mm_n_astJ _, mm_n_go _, mm_n_stR _ _, mm_n_k _ _, mm_n_rtI, mm_n_stR _ _, mm_n_k _ _, mm_n_rtI, mm_n_k _ _, mm_n_rtI, trivial⟩
theorem mo_L_far : mm_Mo f_L_far := mm_do_mo (mm_alln_mem mn_L_far)
set_option maxRecDepth 10000 in
theorem ok_L_far {l : Launch} (hl : l.stackTraces = false) : mm_OkH l yL_far cL_far 4 (some .int) [(0, 9, 12, 19), (0, 9, 15, 21)] 7 182 tb_L_far := by
  refine ⟨mm_alln_mem mn_L_far, fun p e cells slots s m args below meth c D tc A S ad Tg X hret htab => mm_allr_mem ?_⟩
  exact ⟨mm_r_aload_n X (show decode cL_far 0 = .ok (.aload_n 2, 1) by decide +kernel) rfl,
    mm_r_iconst X (show decode cL_far 1 = .ok (.iconst 0, 1) by decide +kernel) rfl,
    mm_r_aload_n X (show decode cL_far 2 = .ok (.aload_n 0, 1) by decide +kernel) rfl,
    mm_r_iload_n X (show decode cL_far 3 = .ok (.iload_n 1, 1) by decide +kernel) rfl,
    mm_r_clC X (ci := 10) (na := 1) (hs := [(1, 13, 3), (3, 16, 3)]) htab ⟨⟨by decide, ⟨by decide, by decide⟩, by decide, mw_620, (Nat.le_of_ble_eq_true rfl), (Or.inl ⟨3, (show decode cL_far 12 = .ok (.astore_n 3, 1) by decide +kernel), rfl, rfl⟩)⟩, ⟨by decide, ⟨by decide, by decide⟩, by decide, mw_621, (Nat.le_of_ble_eq_true rfl), (Or.inl ⟨3, (show decode cL_far 15 = .ok (.astore_n 3, 1) by decide +kernel), rfl, rfl⟩)⟩, trivial⟩ (sn_X10_far hl) rfl (show decode cL_far 4 = .ok (.invokevirtual 65, 3) by decide +kernel) mw_971 mw_968 mw_969 mw_970 mw_93 hd_X10_far ⟨(Nat.le_of_ble_eq_true rfl), (Nat.le_of_ble_eq_true rfl)⟩,
    mm_r_i2l X (show decode cL_far 7 = .ok (.i2l, 1) by decide +kernel),
    mm_r_last X (show decode cL_far 8 = .ok (.lastore, 1) by decide +kernel),
    mm_r_goto X (show decode cL_far 9 = .ok (.goto 9, 3) by decide +kernel) (by decide),
    mm_r_astore_n X (show decode cL_far 12 = .ok (.astore_n 3, 1) by decide +kernel) rfl (Nat.le_of_ble_eq_true rfl),
    mm_r_iconst X (show decode cL_far 13 = .ok (.iconst 1, 1) by decide +kernel) rfl,
    mm_r_iret X hret (show decode cL_far 14 = .ok (.ireturn, 1) by decide +kernel),
    mm_r_astore_n X (show decode cL_far 15 = .ok (.astore_n 3, 1) by decide +kernel) rfl (Nat.le_of_ble_eq_true rfl),
    mm_r_iconst X (show decode cL_far 16 = .ok (.iconst 2, 1) by decide +kernel) rfl,
    mm_r_iret X hret (show decode cL_far 17 = .ok (.ireturn, 1) by decide +kernel),
    mm_r_iconst X (show decode cL_far 18 = .ok (.iconst 0, 1) by decide +kernel) rfl,
    mm_r_iret X hret (show decode cL_far 19 = .ok (.ireturn, 1) by decide +kernel), trivial⟩
theorem sn_L_far {l : Launch} (hl : l.stackTraces = false) : mm_Snd l yL_far (.codeWith yL_far cL_far 4 (some .int) [(0, 9, 12, 19), (0, 9, 15, 21)]) 7 182 f_L_far := mm_metH hl (by decide +kernel) (ok_L_far hl)
/-! LinkcourtLaw.plays(LLinkcourt;II[J)I -/
noncomputable def tb_L_plays : List (Nat × mm_I) := [(0, mm_ldR 1 3), (1, mm_k 2 (.int 0)), (2, mm_ldR 3 0), (3, mm_ldI 4 1), (4, mm_ldI 5 2), (5, mm_clC 8 10 2 f_X10_plays [(2, 15, 4), (3, 19, 4)]), (8, mm_il 9 (fun a => a.toInt64)), (9, mm_astJ 10), (10, mm_go 21), (13, mm_stR 15 4), (15, mm_k 16 (.int 1)), (16, mm_rtI), (17, mm_stR 19 4), (19, mm_k 20 (.int 2)), (20, mm_rtI), (21, mm_k 22 (.int 0)), (22, mm_rtI)]
noncomputable def f_L_plays : mm_F := mm_do (mm_pr tb_L_plays) 5
theorem mn_L_plays : mm_alln tb_L_plays := ⟨mm_n_ldR _ _, mm_n_k _ _, mm_n_ldR _ _, mm_n_ldI _ _, mm_n_ldI _ _, mm_n_clC _ _ _ _ (mo_X10_plays), mm_n_il _ _, mm_n_astJ _, mm_n_go _, mm_n_stR _ _, mm_n_k _ _, mm_n_rtI, mm_n_stR _ _, mm_n_k _ _, mm_n_rtI, mm_n_k _ _, mm_n_rtI, trivial⟩
theorem mo_L_plays : mm_Mo f_L_plays := mm_do_mo (mm_alln_mem mn_L_plays)
set_option maxRecDepth 10000 in
theorem ok_L_plays {l : Launch} (hl : l.stackTraces = false) : mm_OkH l yL_plays cL_plays 5 (some .int) [(0, 10, 13, 13), (0, 10, 17, 21)] 7 178 tb_L_plays := by
  refine ⟨mm_alln_mem mn_L_plays, fun p e cells slots s m args below meth c D tc A S ad Tg X hret htab => mm_allr_mem ?_⟩
  exact ⟨mm_r_aload_n X (show decode cL_plays 0 = .ok (.aload_n 3, 1) by decide +kernel) rfl,
    mm_r_iconst X (show decode cL_plays 1 = .ok (.iconst 0, 1) by decide +kernel) rfl,
    mm_r_aload_n X (show decode cL_plays 2 = .ok (.aload_n 0, 1) by decide +kernel) rfl,
    mm_r_iload_n X (show decode cL_plays 3 = .ok (.iload_n 1, 1) by decide +kernel) rfl,
    mm_r_iload_n X (show decode cL_plays 4 = .ok (.iload_n 2, 1) by decide +kernel) rfl,
    mm_r_clC X (ci := 10) (na := 2) (hs := [(2, 15, 4), (3, 19, 4)]) htab ⟨⟨by decide, ⟨by decide, by decide⟩, by decide, mw_527, (Nat.le_of_ble_eq_true rfl), (Or.inr ⟨(show decode cL_plays 13 = .ok (.astore 4, 2) by decide +kernel), rfl⟩)⟩, ⟨by decide, ⟨by decide, by decide⟩, by decide, mw_621, (Nat.le_of_ble_eq_true rfl), (Or.inr ⟨(show decode cL_plays 17 = .ok (.astore 4, 2) by decide +kernel), rfl⟩)⟩, trivial⟩ (sn_X10_plays hl) rfl (show decode cL_plays 5 = .ok (.invokevirtual 68, 3) by decide +kernel) mw_1019 mw_1016 mw_1017 mw_1018 mw_93 hd_X10_plays ⟨(Nat.le_of_ble_eq_true rfl), (Nat.le_of_ble_eq_true rfl)⟩,
    mm_r_i2l X (show decode cL_plays 8 = .ok (.i2l, 1) by decide +kernel),
    mm_r_last X (show decode cL_plays 9 = .ok (.lastore, 1) by decide +kernel),
    mm_r_goto X (show decode cL_plays 10 = .ok (.goto 11, 3) by decide +kernel) (by decide),
    mm_r_astore X (show decode cL_plays 13 = .ok (.astore 4, 2) by decide +kernel) (Nat.le_of_ble_eq_true rfl),
    mm_r_iconst X (show decode cL_plays 15 = .ok (.iconst 1, 1) by decide +kernel) rfl,
    mm_r_iret X hret (show decode cL_plays 16 = .ok (.ireturn, 1) by decide +kernel),
    mm_r_astore X (show decode cL_plays 17 = .ok (.astore 4, 2) by decide +kernel) (Nat.le_of_ble_eq_true rfl),
    mm_r_iconst X (show decode cL_plays 19 = .ok (.iconst 2, 1) by decide +kernel) rfl,
    mm_r_iret X hret (show decode cL_plays 20 = .ok (.ireturn, 1) by decide +kernel),
    mm_r_iconst X (show decode cL_plays 21 = .ok (.iconst 0, 1) by decide +kernel) rfl,
    mm_r_iret X hret (show decode cL_plays 22 = .ok (.ireturn, 1) by decide +kernel), trivial⟩
theorem sn_L_plays {l : Launch} (hl : l.stackTraces = false) : mm_Snd l yL_plays (.codeWith yL_plays cL_plays 5 (some .int) [(0, 10, 13, 13), (0, 10, 17, 21)]) 7 178 f_L_plays := mm_metH hl (by decide +kernel) (ok_L_plays hl)
/-! LinkcourtLaw.playedOut(LLinkcourt;I[J)I -/
noncomputable def tb_L_playedOut : List (Nat × mm_I) := [(0, mm_ldR 1 2), (1, mm_k 2 (.int 0)), (2, mm_ldR 3 0), (3, mm_ldI 4 1), (4, mm_clC 7 10 1 f_X10_playedOut [(2, 12, 3), (3, 15, 3)]), (7, mm_astJ 8), (8, mm_go 17), (11, mm_stR 12 3), (12, mm_k 13 (.int 1)), (13, mm_rtI), (14, mm_stR 15 3), (15, mm_k 16 (.int 2)), (16, mm_rtI), (17, mm_k 18 (.int 0)), (18, mm_rtI)]
noncomputable def f_L_playedOut : mm_F := mm_do (mm_pr tb_L_playedOut) 4
theorem mn_L_playedOut : mm_alln tb_L_playedOut := ⟨mm_n_ldR _ _, mm_n_k _ _, mm_n_ldR _ _, mm_n_ldI _ _, mm_n_clC _ _ _ _ (mo_X10_playedOut), mm_n_astJ _, mm_n_go _, mm_n_stR _ _, mm_n_k _ _, mm_n_rtI, mm_n_stR _ _, mm_n_k _ _, mm_n_rtI, mm_n_k _ _, mm_n_rtI, trivial⟩
theorem mo_L_playedOut : mm_Mo f_L_playedOut := mm_do_mo (mm_alln_mem mn_L_playedOut)
set_option maxRecDepth 10000 in
theorem ok_L_playedOut {l : Launch} (hl : l.stackTraces = false) : mm_OkH l yL_playedOut cL_playedOut 4 (some .int) [(0, 8, 11, 13), (0, 8, 14, 21)] 7 175 tb_L_playedOut := by
  refine ⟨mm_alln_mem mn_L_playedOut, fun p e cells slots s m args below meth c D tc A S ad Tg X hret htab => mm_allr_mem ?_⟩
  exact ⟨mm_r_aload_n X (show decode cL_playedOut 0 = .ok (.aload_n 2, 1) by decide +kernel) rfl,
    mm_r_iconst X (show decode cL_playedOut 1 = .ok (.iconst 0, 1) by decide +kernel) rfl,
    mm_r_aload_n X (show decode cL_playedOut 2 = .ok (.aload_n 0, 1) by decide +kernel) rfl,
    mm_r_iload_n X (show decode cL_playedOut 3 = .ok (.iload_n 1, 1) by decide +kernel) rfl,
    mm_r_clC X (ci := 10) (na := 1) (hs := [(2, 12, 3), (3, 15, 3)]) htab ⟨⟨by decide, ⟨by decide, by decide⟩, by decide, mw_527, (Nat.le_of_ble_eq_true rfl), (Or.inl ⟨3, (show decode cL_playedOut 11 = .ok (.astore_n 3, 1) by decide +kernel), rfl, rfl⟩)⟩, ⟨by decide, ⟨by decide, by decide⟩, by decide, mw_621, (Nat.le_of_ble_eq_true rfl), (Or.inl ⟨3, (show decode cL_playedOut 14 = .ok (.astore_n 3, 1) by decide +kernel), rfl, rfl⟩)⟩, trivial⟩ (sn_X10_playedOut hl) rfl (show decode cL_playedOut 4 = .ok (.invokevirtual 71, 3) by decide +kernel) mw_1064 mw_1061 mw_1062 mw_1063 mw_93 hd_X10_playedOut ⟨(Nat.le_of_ble_eq_true rfl), (Nat.le_of_ble_eq_true rfl)⟩,
    mm_r_last X (show decode cL_playedOut 7 = .ok (.lastore, 1) by decide +kernel),
    mm_r_goto X (show decode cL_playedOut 8 = .ok (.goto 9, 3) by decide +kernel) (by decide),
    mm_r_astore_n X (show decode cL_playedOut 11 = .ok (.astore_n 3, 1) by decide +kernel) rfl (Nat.le_of_ble_eq_true rfl),
    mm_r_iconst X (show decode cL_playedOut 12 = .ok (.iconst 1, 1) by decide +kernel) rfl,
    mm_r_iret X hret (show decode cL_playedOut 13 = .ok (.ireturn, 1) by decide +kernel),
    mm_r_astore_n X (show decode cL_playedOut 14 = .ok (.astore_n 3, 1) by decide +kernel) rfl (Nat.le_of_ble_eq_true rfl),
    mm_r_iconst X (show decode cL_playedOut 15 = .ok (.iconst 2, 1) by decide +kernel) rfl,
    mm_r_iret X hret (show decode cL_playedOut 16 = .ok (.ireturn, 1) by decide +kernel),
    mm_r_iconst X (show decode cL_playedOut 17 = .ok (.iconst 0, 1) by decide +kernel) rfl,
    mm_r_iret X hret (show decode cL_playedOut 18 = .ok (.ireturn, 1) by decide +kernel), trivial⟩
theorem sn_L_playedOut {l : Launch} (hl : l.stackTraces = false) : mm_Snd l yL_playedOut (.codeWith yL_playedOut cL_playedOut 4 (some .int) [(0, 8, 11, 13), (0, 8, 14, 21)]) 7 175 f_L_playedOut := mm_metH hl (by decide +kernel) (ok_L_playedOut hl)
/-! LinkcourtLaw.type(LLinkcourt;JI[J)I -/
noncomputable def tb_L_type : List (Nat × mm_I) := [(0, mm_ldR 2 4), (2, mm_k 3 (.int 0)), (3, mm_ldR 4 0), (4, mm_ldJ 5 1), (5, mm_ldI 6 3), (6, mm_clC 9 10 2 f_X10_type [(2, 16, 5), (3, 20, 5)]), (9, mm_il 10 (fun a => a.toInt64)), (10, mm_astJ 11), (11, mm_go 22), (14, mm_stR 16 5), (16, mm_k 17 (.int 1)), (17, mm_rtI), (18, mm_stR 20 5), (20, mm_k 21 (.int 2)), (21, mm_rtI), (22, mm_k 23 (.int 0)), (23, mm_rtI)]
noncomputable def f_L_type : mm_F := mm_do (mm_pr tb_L_type) 6
theorem mn_L_type : mm_alln tb_L_type := ⟨mm_n_ldR _ _, mm_n_k _ _, mm_n_ldR _ _, mm_n_ldJ _ _, mm_n_ldI _ _, mm_n_clC _ _ _ _ (mo_X10_type), mm_n_il _ _, mm_n_astJ _, mm_n_go _, mm_n_stR _ _, mm_n_k _ _, mm_n_rtI, mm_n_stR _ _, mm_n_k _ _, mm_n_rtI, mm_n_k _ _, mm_n_rtI, trivial⟩
theorem mo_L_type : mm_Mo f_L_type := mm_do_mo (mm_alln_mem mn_L_type)
set_option maxRecDepth 10000 in
theorem ok_L_type {l : Launch} (hl : l.stackTraces = false) : mm_OkH l yL_type cL_type 6 (some .int) [(0, 11, 14, 13), (0, 11, 18, 21)] 7 113 tb_L_type := by
  refine ⟨mm_alln_mem mn_L_type, fun p e cells slots s m args below meth c D tc A S ad Tg X hret htab => mm_allr_mem ?_⟩
  exact ⟨mm_r_aload X (show decode cL_type 0 = .ok (.aload 4, 2) by decide +kernel),
    mm_r_iconst X (show decode cL_type 2 = .ok (.iconst 0, 1) by decide +kernel) rfl,
    mm_r_aload_n X (show decode cL_type 3 = .ok (.aload_n 0, 1) by decide +kernel) rfl,
    mm_r_lload_n X (show decode cL_type 4 = .ok (.lload_n 1, 1) by decide +kernel) rfl,
    mm_r_iload_n X (show decode cL_type 5 = .ok (.iload_n 3, 1) by decide +kernel) rfl,
    mm_r_clC X (ci := 10) (na := 2) (hs := [(2, 16, 5), (3, 20, 5)]) htab ⟨⟨by decide, ⟨by decide, by decide⟩, by decide, mw_527, (Nat.le_of_ble_eq_true rfl), (Or.inr ⟨(show decode cL_type 14 = .ok (.astore 5, 2) by decide +kernel), rfl⟩)⟩, ⟨by decide, ⟨by decide, by decide⟩, by decide, mw_621, (Nat.le_of_ble_eq_true rfl), (Or.inr ⟨(show decode cL_type 18 = .ok (.astore 5, 2) by decide +kernel), rfl⟩)⟩, trivial⟩ (sn_X10_type hl) rfl (show decode cL_type 6 = .ok (.invokevirtual 75, 3) by decide +kernel) mw_1072 mw_1069 mw_1070 mw_1071 mw_93 hd_X10_type ⟨(Nat.le_of_ble_eq_true rfl), (Nat.le_of_ble_eq_true rfl)⟩,
    mm_r_i2l X (show decode cL_type 9 = .ok (.i2l, 1) by decide +kernel),
    mm_r_last X (show decode cL_type 10 = .ok (.lastore, 1) by decide +kernel),
    mm_r_goto X (show decode cL_type 11 = .ok (.goto 11, 3) by decide +kernel) (by decide),
    mm_r_astore X (show decode cL_type 14 = .ok (.astore 5, 2) by decide +kernel) (Nat.le_of_ble_eq_true rfl),
    mm_r_iconst X (show decode cL_type 16 = .ok (.iconst 1, 1) by decide +kernel) rfl,
    mm_r_iret X hret (show decode cL_type 17 = .ok (.ireturn, 1) by decide +kernel),
    mm_r_astore X (show decode cL_type 18 = .ok (.astore 5, 2) by decide +kernel) (Nat.le_of_ble_eq_true rfl),
    mm_r_iconst X (show decode cL_type 20 = .ok (.iconst 2, 1) by decide +kernel) rfl,
    mm_r_iret X hret (show decode cL_type 21 = .ok (.ireturn, 1) by decide +kernel),
    mm_r_iconst X (show decode cL_type 22 = .ok (.iconst 0, 1) by decide +kernel) rfl,
    mm_r_iret X hret (show decode cL_type 23 = .ok (.ireturn, 1) by decide +kernel), trivial⟩
theorem sn_L_type {l : Launch} (hl : l.stackTraces = false) : mm_Snd l yL_type (.codeWith yL_type cL_type 6 (some .int) [(0, 11, 14, 13), (0, 11, 18, 21)]) 7 113 f_L_type := mm_metH hl (by decide +kernel) (ok_L_type hl)
/-! LinkcourtLaw.pattern(LLinkcourt;[J)I -/
noncomputable def tb_L_pattern : List (Nat × mm_I) := [(0, mm_ldR 1 1), (1, mm_k 2 (.int 0)), (2, mm_ldR 3 0), (3, mm_clC 6 10 0 f_X10_pattern [(2, 12, 2), (3, 15, 2)]), (6, mm_il 7 (fun a => a.toInt64)), (7, mm_astJ 8), (8, mm_go 17), (11, mm_stR 12 2), (12, mm_k 13 (.int 1)), (13, mm_rtI), (14, mm_stR 15 2), (15, mm_k 16 (.int 2)), (16, mm_rtI), (17, mm_k 18 (.int 0)), (18, mm_rtI)]
noncomputable def f_L_pattern : mm_F := mm_do (mm_pr tb_L_pattern) 3
theorem mn_L_pattern : mm_alln tb_L_pattern := ⟨mm_n_ldR _ _, mm_n_k _ _, mm_n_ldR _ _, mm_n_clC _ _ _ _ (mo_X10_pattern), mm_n_il _ _, mm_n_astJ _, mm_n_go _, mm_n_stR _ _, mm_n_k _ _, mm_n_rtI, mm_n_stR _ _, mm_n_k _ _, mm_n_rtI, mm_n_k _ _, mm_n_rtI, trivial⟩
theorem mo_L_pattern : mm_Mo f_L_pattern := mm_do_mo (mm_alln_mem mn_L_pattern)
set_option maxRecDepth 10000 in
theorem ok_L_pattern {l : Launch} (hl : l.stackTraces = false) : mm_OkH l yL_pattern cL_pattern 3 (some .int) [(0, 8, 11, 13), (0, 8, 14, 21)] 7 131 tb_L_pattern := by
  refine ⟨mm_alln_mem mn_L_pattern, fun p e cells slots s m args below meth c D tc A S ad Tg X hret htab => mm_allr_mem ?_⟩
  exact ⟨mm_r_aload_n X (show decode cL_pattern 0 = .ok (.aload_n 1, 1) by decide +kernel) rfl,
    mm_r_iconst X (show decode cL_pattern 1 = .ok (.iconst 0, 1) by decide +kernel) rfl,
    mm_r_aload_n X (show decode cL_pattern 2 = .ok (.aload_n 0, 1) by decide +kernel) rfl,
    mm_r_clC X (ci := 10) (na := 0) (hs := [(2, 12, 2), (3, 15, 2)]) htab ⟨⟨by decide, ⟨by decide, by decide⟩, by decide, mw_527, (Nat.le_of_ble_eq_true rfl), (Or.inl ⟨2, (show decode cL_pattern 11 = .ok (.astore_n 2, 1) by decide +kernel), rfl, rfl⟩)⟩, ⟨by decide, ⟨by decide, by decide⟩, by decide, mw_621, (Nat.le_of_ble_eq_true rfl), (Or.inl ⟨2, (show decode cL_pattern 14 = .ok (.astore_n 2, 1) by decide +kernel), rfl, rfl⟩)⟩, trivial⟩ (sn_X10_pattern hl) rfl (show decode cL_pattern 3 = .ok (.invokevirtual 79, 3) by decide +kernel) mw_1094 mw_1091 mw_1092 mw_1093 mw_93 hd_X10_pattern ⟨(Nat.le_of_ble_eq_true rfl), (Nat.le_of_ble_eq_true rfl)⟩,
    mm_r_i2l X (show decode cL_pattern 6 = .ok (.i2l, 1) by decide +kernel),
    mm_r_last X (show decode cL_pattern 7 = .ok (.lastore, 1) by decide +kernel),
    mm_r_goto X (show decode cL_pattern 8 = .ok (.goto 9, 3) by decide +kernel) (by decide),
    mm_r_astore_n X (show decode cL_pattern 11 = .ok (.astore_n 2, 1) by decide +kernel) rfl (Nat.le_of_ble_eq_true rfl),
    mm_r_iconst X (show decode cL_pattern 12 = .ok (.iconst 1, 1) by decide +kernel) rfl,
    mm_r_iret X hret (show decode cL_pattern 13 = .ok (.ireturn, 1) by decide +kernel),
    mm_r_astore_n X (show decode cL_pattern 14 = .ok (.astore_n 2, 1) by decide +kernel) rfl (Nat.le_of_ble_eq_true rfl),
    mm_r_iconst X (show decode cL_pattern 15 = .ok (.iconst 2, 1) by decide +kernel) rfl,
    mm_r_iret X hret (show decode cL_pattern 16 = .ok (.ireturn, 1) by decide +kernel),
    mm_r_iconst X (show decode cL_pattern 17 = .ok (.iconst 0, 1) by decide +kernel) rfl,
    mm_r_iret X hret (show decode cL_pattern 18 = .ok (.ireturn, 1) by decide +kernel), trivial⟩
theorem sn_L_pattern {l : Launch} (hl : l.stackTraces = false) : mm_Snd l yL_pattern (.codeWith yL_pattern cL_pattern 3 (some .int) [(0, 8, 11, 13), (0, 8, 14, 21)]) 7 131 f_L_pattern := mm_metH hl (by decide +kernel) (ok_L_pattern hl)
/-! LinkcourtLaw.fits(LLinkcourt;II[J)I -/
noncomputable def tb_L_fits : List (Nat × mm_I) := [(0, mm_ldR 1 3), (1, mm_k 2 (.int 0)), (2, mm_ldR 3 0), (3, mm_ldI 4 1), (4, mm_ldI 5 2), (5, mm_clC 8 10 2 f_X10_fits [(1, 14, 4)]), (8, mm_astJ 9), (9, mm_go 16), (12, mm_stR 14 4), (14, mm_k 15 (.int 1)), (15, mm_rtI), (16, mm_k 17 (.int 0)), (17, mm_rtI)]
noncomputable def f_L_fits : mm_F := mm_do (mm_pr tb_L_fits) 5
theorem mn_L_fits : mm_alln tb_L_fits := ⟨mm_n_ldR _ _, mm_n_k _ _, mm_n_ldR _ _, mm_n_ldI _ _, mm_n_ldI _ _, mm_n_clC _ _ _ _ (mo_X10_fits), mm_n_astJ _, mm_n_go _, mm_n_stR _ _, mm_n_k _ _, mm_n_rtI, mm_n_k _ _, mm_n_rtI, trivial⟩
theorem mo_L_fits : mm_Mo f_L_fits := mm_do_mo (mm_alln_mem mn_L_fits)
set_option maxRecDepth 10000 in
theorem ok_L_fits {l : Launch} (hl : l.stackTraces = false) : mm_OkH l yL_fits cL_fits 5 (some .int) [(0, 9, 12, 19)] 7 143 tb_L_fits := by
  refine ⟨mm_alln_mem mn_L_fits, fun p e cells slots s m args below meth c D tc A S ad Tg X hret htab => mm_allr_mem ?_⟩
  exact ⟨mm_r_aload_n X (show decode cL_fits 0 = .ok (.aload_n 3, 1) by decide +kernel) rfl,
    mm_r_iconst X (show decode cL_fits 1 = .ok (.iconst 0, 1) by decide +kernel) rfl,
    mm_r_aload_n X (show decode cL_fits 2 = .ok (.aload_n 0, 1) by decide +kernel) rfl,
    mm_r_iload_n X (show decode cL_fits 3 = .ok (.iload_n 1, 1) by decide +kernel) rfl,
    mm_r_iload_n X (show decode cL_fits 4 = .ok (.iload_n 2, 1) by decide +kernel) rfl,
    mm_r_clC X (ci := 10) (na := 2) (hs := [(1, 14, 4)]) htab ⟨⟨by decide, ⟨by decide, by decide⟩, by decide, mw_620, (Nat.le_of_ble_eq_true rfl), (Or.inr ⟨(show decode cL_fits 12 = .ok (.astore 4, 2) by decide +kernel), rfl⟩)⟩, trivial⟩ (sn_X10_fits hl) rfl (show decode cL_fits 5 = .ok (.invokevirtual 82, 3) by decide +kernel) mw_1120 mw_1117 mw_1118 mw_1119 mw_93 hd_X10_fits ⟨(Nat.le_of_ble_eq_true rfl), (Nat.le_of_ble_eq_true rfl)⟩,
    mm_r_last X (show decode cL_fits 8 = .ok (.lastore, 1) by decide +kernel),
    mm_r_goto X (show decode cL_fits 9 = .ok (.goto 7, 3) by decide +kernel) (by decide),
    mm_r_astore X (show decode cL_fits 12 = .ok (.astore 4, 2) by decide +kernel) (Nat.le_of_ble_eq_true rfl),
    mm_r_iconst X (show decode cL_fits 14 = .ok (.iconst 1, 1) by decide +kernel) rfl,
    mm_r_iret X hret (show decode cL_fits 15 = .ok (.ireturn, 1) by decide +kernel),
    mm_r_iconst X (show decode cL_fits 16 = .ok (.iconst 0, 1) by decide +kernel) rfl,
    mm_r_iret X hret (show decode cL_fits 17 = .ok (.ireturn, 1) by decide +kernel), trivial⟩
theorem sn_L_fits {l : Launch} (hl : l.stackTraces = false) : mm_Snd l yL_fits (.codeWith yL_fits cL_fits 5 (some .int) [(0, 9, 12, 19)]) 7 143 f_L_fits := mm_metH hl (by decide +kernel) (ok_L_fits hl)
/-! LinkcourtLaw.fitsAnew(LLinkcourt;II[J)I -/
noncomputable def tb_L_fitsAnew : List (Nat × mm_I) := [(0, mm_ldR 1 3), (1, mm_k 2 (.int 0)), (2, mm_ldR 3 0), (3, mm_ldI 4 1), (4, mm_ldI 5 2), (5, mm_clC 8 10 2 f_X10_fitsAnew [(1, 14, 4)]), (8, mm_astJ 9), (9, mm_go 16), (12, mm_stR 14 4), (14, mm_k 15 (.int 1)), (15, mm_rtI), (16, mm_k 17 (.int 0)), (17, mm_rtI)]
noncomputable def f_L_fitsAnew : mm_F := mm_do (mm_pr tb_L_fitsAnew) 5
theorem mn_L_fitsAnew : mm_alln tb_L_fitsAnew := ⟨mm_n_ldR _ _, mm_n_k _ _, mm_n_ldR _ _, mm_n_ldI _ _, mm_n_ldI _ _, mm_n_clC _ _ _ _ (mo_X10_fitsAnew), mm_n_astJ _, mm_n_go _, mm_n_stR _ _, mm_n_k _ _, mm_n_rtI, mm_n_k _ _, mm_n_rtI, trivial⟩
theorem mo_L_fitsAnew : mm_Mo f_L_fitsAnew := mm_do_mo (mm_alln_mem mn_L_fitsAnew)
set_option maxRecDepth 10000 in
theorem ok_L_fitsAnew {l : Launch} (hl : l.stackTraces = false) : mm_OkH l yL_fitsAnew cL_fitsAnew 5 (some .int) [(0, 9, 12, 19)] 7 177 tb_L_fitsAnew := by
  refine ⟨mm_alln_mem mn_L_fitsAnew, fun p e cells slots s m args below meth c D tc A S ad Tg X hret htab => mm_allr_mem ?_⟩
  exact ⟨mm_r_aload_n X (show decode cL_fitsAnew 0 = .ok (.aload_n 3, 1) by decide +kernel) rfl,
    mm_r_iconst X (show decode cL_fitsAnew 1 = .ok (.iconst 0, 1) by decide +kernel) rfl,
    mm_r_aload_n X (show decode cL_fitsAnew 2 = .ok (.aload_n 0, 1) by decide +kernel) rfl,
    mm_r_iload_n X (show decode cL_fitsAnew 3 = .ok (.iload_n 1, 1) by decide +kernel) rfl,
    mm_r_iload_n X (show decode cL_fitsAnew 4 = .ok (.iload_n 2, 1) by decide +kernel) rfl,
    mm_r_clC X (ci := 10) (na := 2) (hs := [(1, 14, 4)]) htab ⟨⟨by decide, ⟨by decide, by decide⟩, by decide, mw_620, (Nat.le_of_ble_eq_true rfl), (Or.inr ⟨(show decode cL_fitsAnew 12 = .ok (.astore 4, 2) by decide +kernel), rfl⟩)⟩, trivial⟩ (sn_X10_fitsAnew hl) rfl (show decode cL_fitsAnew 5 = .ok (.invokevirtual 86, 3) by decide +kernel) mw_1150 mw_1147 mw_1148 mw_1149 mw_93 hd_X10_fitsAnew ⟨(Nat.le_of_ble_eq_true rfl), (Nat.le_of_ble_eq_true rfl)⟩,
    mm_r_last X (show decode cL_fitsAnew 8 = .ok (.lastore, 1) by decide +kernel),
    mm_r_goto X (show decode cL_fitsAnew 9 = .ok (.goto 7, 3) by decide +kernel) (by decide),
    mm_r_astore X (show decode cL_fitsAnew 12 = .ok (.astore 4, 2) by decide +kernel) (Nat.le_of_ble_eq_true rfl),
    mm_r_iconst X (show decode cL_fitsAnew 14 = .ok (.iconst 1, 1) by decide +kernel) rfl,
    mm_r_iret X hret (show decode cL_fitsAnew 15 = .ok (.ireturn, 1) by decide +kernel),
    mm_r_iconst X (show decode cL_fitsAnew 16 = .ok (.iconst 0, 1) by decide +kernel) rfl,
    mm_r_iret X hret (show decode cL_fitsAnew 17 = .ok (.ireturn, 1) by decide +kernel), trivial⟩
theorem sn_L_fitsAnew {l : Launch} (hl : l.stackTraces = false) : mm_Snd l yL_fitsAnew (.codeWith yL_fitsAnew cL_fitsAnew 5 (some .int) [(0, 9, 12, 19)]) 7 177 f_L_fitsAnew := mm_metH hl (by decide +kernel) (ok_L_fitsAnew hl)
/-! LinkcourtLaw.clocks(LLinkcourt;III)I -/
noncomputable def tb_L_clocks : List (Nat × mm_I) := [(0, mm_ldR 1 0), (1, mm_ldI 2 1), (2, mm_ldI 3 2), (3, mm_ldI 4 3), (4, mm_clC 7 10 3 f_X10_clocks [(2, 12, 4), (3, 16, 4)]), (7, mm_go 18), (10, mm_stR 12 4), (12, mm_k 13 (.int 1)), (13, mm_rtI), (14, mm_stR 16 4), (16, mm_k 17 (.int 2)), (17, mm_rtI), (18, mm_k 19 (.int 0)), (19, mm_rtI)]
noncomputable def f_L_clocks : mm_F := mm_do (mm_pr tb_L_clocks) 5
theorem mn_L_clocks : mm_alln tb_L_clocks := ⟨mm_n_ldR _ _, mm_n_ldI _ _, mm_n_ldI _ _, mm_n_ldI _ _, mm_n_clC _ _ _ _ (mo_X10_clocks), mm_n_go _, mm_n_stR _ _, mm_n_k _ _, mm_n_rtI, mm_n_stR _ _, mm_n_k _ _, mm_n_rtI, mm_n_k _ _, mm_n_rtI, trivial⟩
theorem mo_L_clocks : mm_Mo f_L_clocks := mm_do_mo (mm_alln_mem mn_L_clocks)
set_option maxRecDepth 10000 in
theorem ok_L_clocks {l : Launch} (hl : l.stackTraces = false) : mm_OkH l yL_clocks cL_clocks 5 (some .int) [(0, 7, 10, 13), (0, 7, 14, 21)] 7 113 tb_L_clocks := by
  refine ⟨mm_alln_mem mn_L_clocks, fun p e cells slots s m args below meth c D tc A S ad Tg X hret htab => mm_allr_mem ?_⟩
  exact ⟨mm_r_aload_n X (show decode cL_clocks 0 = .ok (.aload_n 0, 1) by decide +kernel) rfl,
    mm_r_iload_n X (show decode cL_clocks 1 = .ok (.iload_n 1, 1) by decide +kernel) rfl,
    mm_r_iload_n X (show decode cL_clocks 2 = .ok (.iload_n 2, 1) by decide +kernel) rfl,
    mm_r_iload_n X (show decode cL_clocks 3 = .ok (.iload_n 3, 1) by decide +kernel) rfl,
    mm_r_clC X (ci := 10) (na := 3) (hs := [(2, 12, 4), (3, 16, 4)]) htab ⟨⟨by decide, ⟨by decide, by decide⟩, by decide, mw_527, (Nat.le_of_ble_eq_true rfl), (Or.inr ⟨(show decode cL_clocks 10 = .ok (.astore 4, 2) by decide +kernel), rfl⟩)⟩, ⟨by decide, ⟨by decide, by decide⟩, by decide, mw_621, (Nat.le_of_ble_eq_true rfl), (Or.inr ⟨(show decode cL_clocks 14 = .ok (.astore 4, 2) by decide +kernel), rfl⟩)⟩, trivial⟩ (sn_X10_clocks hl) rfl (show decode cL_clocks 4 = .ok (.invokevirtual 89, 3) by decide +kernel) mw_1169 mw_1166 mw_1167 mw_1168 mw_93 hd_X10_clocks ⟨(Nat.le_of_ble_eq_true rfl), (Nat.le_of_ble_eq_true rfl)⟩,
    mm_r_goto X (show decode cL_clocks 7 = .ok (.goto 11, 3) by decide +kernel) (by decide),
    mm_r_astore X (show decode cL_clocks 10 = .ok (.astore 4, 2) by decide +kernel) (Nat.le_of_ble_eq_true rfl),
    mm_r_iconst X (show decode cL_clocks 12 = .ok (.iconst 1, 1) by decide +kernel) rfl,
    mm_r_iret X hret (show decode cL_clocks 13 = .ok (.ireturn, 1) by decide +kernel),
    mm_r_astore X (show decode cL_clocks 14 = .ok (.astore 4, 2) by decide +kernel) (Nat.le_of_ble_eq_true rfl),
    mm_r_iconst X (show decode cL_clocks 16 = .ok (.iconst 2, 1) by decide +kernel) rfl,
    mm_r_iret X hret (show decode cL_clocks 17 = .ok (.ireturn, 1) by decide +kernel),
    mm_r_iconst X (show decode cL_clocks 18 = .ok (.iconst 0, 1) by decide +kernel) rfl,
    mm_r_iret X hret (show decode cL_clocks 19 = .ok (.ireturn, 1) by decide +kernel), trivial⟩
theorem sn_L_clocks {l : Launch} (hl : l.stackTraces = false) : mm_Snd l yL_clocks (.codeWith yL_clocks cL_clocks 5 (some .int) [(0, 7, 10, 13), (0, 7, 14, 21)]) 7 113 f_L_clocks := mm_metH hl (by decide +kernel) (ok_L_clocks hl)
/-! LinkcourtLaw.think(LLinkcourt;I[J)I -/
noncomputable def tb_L_think : List (Nat × mm_I) := [(0, mm_ldR 1 2), (1, mm_k 2 (.int 0)), (2, mm_ldR 3 0), (3, mm_ldI 4 1), (4, mm_clC 7 10 1 f_X10_think [(2, 13, 3), (3, 16, 3)]), (7, mm_il 8 (fun a => a.toInt64)), (8, mm_astJ 9), (9, mm_go 18), (12, mm_stR 13 3), (13, mm_k 14 (.int 1)), (14, mm_rtI), (15, mm_stR 16 3), (16, mm_k 17 (.int 2)), (17, mm_rtI), (18, mm_k 19 (.int 0)), (19, mm_rtI)]
noncomputable def f_L_think : mm_F := mm_do (mm_pr tb_L_think) 4
theorem mn_L_think : mm_alln tb_L_think := ⟨mm_n_ldR _ _, mm_n_k _ _, mm_n_ldR _ _, mm_n_ldI _ _, mm_n_clC _ _ _ _ (mo_X10_think), mm_n_il _ _, mm_n_astJ _, mm_n_go _, mm_n_stR _ _, mm_n_k _ _, mm_n_rtI, mm_n_stR _ _, mm_n_k _ _, mm_n_rtI, mm_n_k _ _, mm_n_rtI, trivial⟩
theorem mo_L_think : mm_Mo f_L_think := mm_do_mo (mm_alln_mem mn_L_think)
set_option maxRecDepth 10000 in
theorem ok_L_think {l : Launch} (hl : l.stackTraces = false) : mm_OkH l yL_think cL_think 4 (some .int) [(0, 9, 12, 13), (0, 9, 15, 21)] 7 111 tb_L_think := by
  refine ⟨mm_alln_mem mn_L_think, fun p e cells slots s m args below meth c D tc A S ad Tg X hret htab => mm_allr_mem ?_⟩
  exact ⟨mm_r_aload_n X (show decode cL_think 0 = .ok (.aload_n 2, 1) by decide +kernel) rfl,
    mm_r_iconst X (show decode cL_think 1 = .ok (.iconst 0, 1) by decide +kernel) rfl,
    mm_r_aload_n X (show decode cL_think 2 = .ok (.aload_n 0, 1) by decide +kernel) rfl,
    mm_r_iload_n X (show decode cL_think 3 = .ok (.iload_n 1, 1) by decide +kernel) rfl,
    mm_r_clC X (ci := 10) (na := 1) (hs := [(2, 13, 3), (3, 16, 3)]) htab ⟨⟨by decide, ⟨by decide, by decide⟩, by decide, mw_527, (Nat.le_of_ble_eq_true rfl), (Or.inl ⟨3, (show decode cL_think 12 = .ok (.astore_n 3, 1) by decide +kernel), rfl, rfl⟩)⟩, ⟨by decide, ⟨by decide, by decide⟩, by decide, mw_621, (Nat.le_of_ble_eq_true rfl), (Or.inl ⟨3, (show decode cL_think 15 = .ok (.astore_n 3, 1) by decide +kernel), rfl, rfl⟩)⟩, trivial⟩ (sn_X10_think hl) rfl (show decode cL_think 4 = .ok (.invokevirtual 93, 3) by decide +kernel) mw_1179 mw_1176 mw_1177 mw_1178 mw_93 hd_X10_think ⟨(Nat.le_of_ble_eq_true rfl), (Nat.le_of_ble_eq_true rfl)⟩,
    mm_r_i2l X (show decode cL_think 7 = .ok (.i2l, 1) by decide +kernel),
    mm_r_last X (show decode cL_think 8 = .ok (.lastore, 1) by decide +kernel),
    mm_r_goto X (show decode cL_think 9 = .ok (.goto 9, 3) by decide +kernel) (by decide),
    mm_r_astore_n X (show decode cL_think 12 = .ok (.astore_n 3, 1) by decide +kernel) rfl (Nat.le_of_ble_eq_true rfl),
    mm_r_iconst X (show decode cL_think 13 = .ok (.iconst 1, 1) by decide +kernel) rfl,
    mm_r_iret X hret (show decode cL_think 14 = .ok (.ireturn, 1) by decide +kernel),
    mm_r_astore_n X (show decode cL_think 15 = .ok (.astore_n 3, 1) by decide +kernel) rfl (Nat.le_of_ble_eq_true rfl),
    mm_r_iconst X (show decode cL_think 16 = .ok (.iconst 2, 1) by decide +kernel) rfl,
    mm_r_iret X hret (show decode cL_think 17 = .ok (.ireturn, 1) by decide +kernel),
    mm_r_iconst X (show decode cL_think 18 = .ok (.iconst 0, 1) by decide +kernel) rfl,
    mm_r_iret X hret (show decode cL_think 19 = .ok (.ireturn, 1) by decide +kernel), trivial⟩
theorem sn_L_think {l : Launch} (hl : l.stackTraces = false) : mm_Snd l yL_think (.codeWith yL_think cL_think 4 (some .int) [(0, 9, 12, 13), (0, 9, 15, 21)]) 7 111 f_L_think := mm_metH hl (by decide +kernel) (ok_L_think hl)
/-! LinkcourtLaw.clock(LLinkcourt;II[J)I -/
noncomputable def tb_L_clock : List (Nat × mm_I) := [(0, mm_ldR 1 3), (1, mm_k 2 (.int 0)), (2, mm_ldR 3 0), (3, mm_ldI 4 1), (4, mm_ldI 5 2), (5, mm_clC 8 10 2 f_X10_clock [(1, 15, 4), (2, 19, 4)]), (8, mm_il 9 (fun a => a.toInt64)), (9, mm_astJ 10), (10, mm_go 21), (13, mm_stR 15 4), (15, mm_k 16 (.int 1)), (16, mm_rtI), (17, mm_stR 19 4), (19, mm_k 20 (.int 2)), (20, mm_rtI), (21, mm_k 22 (.int 0)), (22, mm_rtI)]
noncomputable def f_L_clock : mm_F := mm_do (mm_pr tb_L_clock) 5
theorem mn_L_clock : mm_alln tb_L_clock := ⟨mm_n_ldR _ _, mm_n_k _ _, mm_n_ldR _ _, mm_n_ldI _ _, mm_n_ldI _ _, mm_n_clC _ _ _ _ (mo_X10_clock), mm_n_il _ _, mm_n_astJ _, mm_n_go _, mm_n_stR _ _, mm_n_k _ _, mm_n_rtI, mm_n_stR _ _, mm_n_k _ _, mm_n_rtI, mm_n_k _ _, mm_n_rtI, trivial⟩
theorem mo_L_clock : mm_Mo f_L_clock := mm_do_mo (mm_alln_mem mn_L_clock)
set_option maxRecDepth 10000 in
theorem ok_L_clock {l : Launch} (hl : l.stackTraces = false) : mm_OkH l yL_clock cL_clock 5 (some .int) [(0, 10, 13, 19), (0, 10, 17, 13)] 7 112 tb_L_clock := by
  refine ⟨mm_alln_mem mn_L_clock, fun p e cells slots s m args below meth c D tc A S ad Tg X hret htab => mm_allr_mem ?_⟩
  exact ⟨mm_r_aload_n X (show decode cL_clock 0 = .ok (.aload_n 3, 1) by decide +kernel) rfl,
    mm_r_iconst X (show decode cL_clock 1 = .ok (.iconst 0, 1) by decide +kernel) rfl,
    mm_r_aload_n X (show decode cL_clock 2 = .ok (.aload_n 0, 1) by decide +kernel) rfl,
    mm_r_iload_n X (show decode cL_clock 3 = .ok (.iload_n 1, 1) by decide +kernel) rfl,
    mm_r_iload_n X (show decode cL_clock 4 = .ok (.iload_n 2, 1) by decide +kernel) rfl,
    mm_r_clC X (ci := 10) (na := 2) (hs := [(1, 15, 4), (2, 19, 4)]) htab ⟨⟨by decide, ⟨by decide, by decide⟩, by decide, mw_620, (Nat.le_of_ble_eq_true rfl), (Or.inr ⟨(show decode cL_clock 13 = .ok (.astore 4, 2) by decide +kernel), rfl⟩)⟩, ⟨by decide, ⟨by decide, by decide⟩, by decide, mw_527, (Nat.le_of_ble_eq_true rfl), (Or.inr ⟨(show decode cL_clock 17 = .ok (.astore 4, 2) by decide +kernel), rfl⟩)⟩, trivial⟩ (sn_X10_clock hl) rfl (show decode cL_clock 5 = .ok (.invokevirtual 96, 3) by decide +kernel) mw_1193 mw_1190 mw_1191 mw_1192 mw_93 hd_X10_clock ⟨(Nat.le_of_ble_eq_true rfl), (Nat.le_of_ble_eq_true rfl)⟩,
    mm_r_i2l X (show decode cL_clock 8 = .ok (.i2l, 1) by decide +kernel),
    mm_r_last X (show decode cL_clock 9 = .ok (.lastore, 1) by decide +kernel),
    mm_r_goto X (show decode cL_clock 10 = .ok (.goto 11, 3) by decide +kernel) (by decide),
    mm_r_astore X (show decode cL_clock 13 = .ok (.astore 4, 2) by decide +kernel) (Nat.le_of_ble_eq_true rfl),
    mm_r_iconst X (show decode cL_clock 15 = .ok (.iconst 1, 1) by decide +kernel) rfl,
    mm_r_iret X hret (show decode cL_clock 16 = .ok (.ireturn, 1) by decide +kernel),
    mm_r_astore X (show decode cL_clock 17 = .ok (.astore 4, 2) by decide +kernel) (Nat.le_of_ble_eq_true rfl),
    mm_r_iconst X (show decode cL_clock 19 = .ok (.iconst 2, 1) by decide +kernel) rfl,
    mm_r_iret X hret (show decode cL_clock 20 = .ok (.ireturn, 1) by decide +kernel),
    mm_r_iconst X (show decode cL_clock 21 = .ok (.iconst 0, 1) by decide +kernel) rfl,
    mm_r_iret X hret (show decode cL_clock 22 = .ok (.ireturn, 1) by decide +kernel), trivial⟩
theorem sn_L_clock {l : Launch} (hl : l.stackTraces = false) : mm_Snd l yL_clock (.codeWith yL_clock cL_clock 5 (some .int) [(0, 10, 13, 19), (0, 10, 17, 13)]) 7 112 f_L_clock := mm_metH hl (by decide +kernel) (ok_L_clock hl)
/-! LinkcourtLaw.person(LLinkcourt;[J)I -/
noncomputable def tb_L_person : List (Nat × mm_I) := [(0, mm_ldR 1 1), (1, mm_k 2 (.int 0)), (2, mm_ldR 3 0), (3, mm_clC 6 10 0 f_X10_person [(3, 12, 2)]), (6, mm_il 7 (fun a => a.toInt64)), (7, mm_astJ 8), (8, mm_go 14), (11, mm_stR 12 2), (12, mm_k 13 (.int 1)), (13, mm_rtI), (14, mm_k 15 (.int 0)), (15, mm_rtI)]
noncomputable def f_L_person : mm_F := mm_do (mm_pr tb_L_person) 3
theorem mn_L_person : mm_alln tb_L_person := ⟨mm_n_ldR _ _, mm_n_k _ _, mm_n_ldR _ _, mm_n_clC _ _ _ _ (mo_X10_person), mm_n_il _ _, mm_n_astJ _, mm_n_go _, mm_n_stR _ _, mm_n_k _ _, mm_n_rtI, mm_n_k _ _, mm_n_rtI, trivial⟩
theorem mo_L_person : mm_Mo f_L_person := mm_do_mo (mm_alln_mem mn_L_person)
set_option maxRecDepth 10000 in
theorem ok_L_person {l : Launch} (hl : l.stackTraces = false) : mm_OkH l yL_person cL_person 3 (some .int) [(0, 8, 11, 21)] 7 110 tb_L_person := by
  refine ⟨mm_alln_mem mn_L_person, fun p e cells slots s m args below meth c D tc A S ad Tg X hret htab => mm_allr_mem ?_⟩
  exact ⟨mm_r_aload_n X (show decode cL_person 0 = .ok (.aload_n 1, 1) by decide +kernel) rfl,
    mm_r_iconst X (show decode cL_person 1 = .ok (.iconst 0, 1) by decide +kernel) rfl,
    mm_r_aload_n X (show decode cL_person 2 = .ok (.aload_n 0, 1) by decide +kernel) rfl,
    mm_r_clC X (ci := 10) (na := 0) (hs := [(3, 12, 2)]) htab ⟨⟨by decide, ⟨by decide, by decide⟩, by decide, mw_621, (Nat.le_of_ble_eq_true rfl), (Or.inl ⟨2, (show decode cL_person 11 = .ok (.astore_n 2, 1) by decide +kernel), rfl, rfl⟩)⟩, trivial⟩ (sn_X10_person hl) rfl (show decode cL_person 3 = .ok (.invokevirtual 99, 3) by decide +kernel) mw_1204 mw_1201 mw_1202 mw_1203 mw_93 hd_X10_person ⟨(Nat.le_of_ble_eq_true rfl), (Nat.le_of_ble_eq_true rfl)⟩,
    mm_r_i2l X (show decode cL_person 6 = .ok (.i2l, 1) by decide +kernel),
    mm_r_last X (show decode cL_person 7 = .ok (.lastore, 1) by decide +kernel),
    mm_r_goto X (show decode cL_person 8 = .ok (.goto 6, 3) by decide +kernel) (by decide),
    mm_r_astore_n X (show decode cL_person 11 = .ok (.astore_n 2, 1) by decide +kernel) rfl (Nat.le_of_ble_eq_true rfl),
    mm_r_iconst X (show decode cL_person 12 = .ok (.iconst 1, 1) by decide +kernel) rfl,
    mm_r_iret X hret (show decode cL_person 13 = .ok (.ireturn, 1) by decide +kernel),
    mm_r_iconst X (show decode cL_person 14 = .ok (.iconst 0, 1) by decide +kernel) rfl,
    mm_r_iret X hret (show decode cL_person 15 = .ok (.ireturn, 1) by decide +kernel), trivial⟩
theorem sn_L_person {l : Launch} (hl : l.stackTraces = false) : mm_Snd l yL_person (.codeWith yL_person cL_person 3 (some .int) [(0, 8, 11, 21)]) 7 110 f_L_person := mm_metH hl (by decide +kernel) (ok_L_person hl)
/-! LinkcourtLaw.record(LLinkcourt;II[J)I -/
noncomputable def tb_L_record : List (Nat × mm_I) := [(0, mm_ldR 1 3), (1, mm_k 2 (.int 0)), (2, mm_ldR 3 0), (3, mm_ldI 4 1), (4, mm_ldI 5 2), (5, mm_clC 8 10 2 f_X10_record [(1, 15, 4), (2, 19, 4), (3, 23, 4)]), (8, mm_il 9 (fun a => a.toInt64)), (9, mm_astJ 10), (10, mm_go 25), (13, mm_stR 15 4), (15, mm_k 16 (.int 1)), (16, mm_rtI), (17, mm_stR 19 4), (19, mm_k 20 (.int 2)), (20, mm_rtI), (21, mm_stR 23 4), (23, mm_k 24 (.int 3)), (24, mm_rtI), (25, mm_k 26 (.int 0)), (26, mm_rtI)]
noncomputable def f_L_record : mm_F := mm_do (mm_pr tb_L_record) 5
theorem mn_L_record : mm_alln tb_L_record := ⟨mm_n_ldR _ _, mm_n_k _ _, mm_n_ldR _ _, mm_n_ldI _ _, mm_n_ldI _ _, mm_n_clC _ _ _ _ (mo_X10_record), mm_n_il _ _, mm_n_astJ _, mm_n_go _, mm_n_stR _ _, mm_n_k _ _, mm_n_rtI, mm_n_stR _ _, mm_n_k _ _, mm_n_rtI, mm_n_stR _ _, mm_n_k _ _, mm_n_rtI, mm_n_k _ _, mm_n_rtI, trivial⟩
theorem mo_L_record : mm_Mo f_L_record := mm_do_mo (mm_alln_mem mn_L_record)
set_option maxRecDepth 10000 in
theorem ok_L_record {l : Launch} (hl : l.stackTraces = false) : mm_OkH l yL_record cL_record 5 (some .int) [(0, 10, 13, 19), (0, 10, 17, 13), (0, 10, 21, 21)] 7 113 tb_L_record := by
  refine ⟨mm_alln_mem mn_L_record, fun p e cells slots s m args below meth c D tc A S ad Tg X hret htab => mm_allr_mem ?_⟩
  exact ⟨mm_r_aload_n X (show decode cL_record 0 = .ok (.aload_n 3, 1) by decide +kernel) rfl,
    mm_r_iconst X (show decode cL_record 1 = .ok (.iconst 0, 1) by decide +kernel) rfl,
    mm_r_aload_n X (show decode cL_record 2 = .ok (.aload_n 0, 1) by decide +kernel) rfl,
    mm_r_iload_n X (show decode cL_record 3 = .ok (.iload_n 1, 1) by decide +kernel) rfl,
    mm_r_iload_n X (show decode cL_record 4 = .ok (.iload_n 2, 1) by decide +kernel) rfl,
    mm_r_clC X (ci := 10) (na := 2) (hs := [(1, 15, 4), (2, 19, 4), (3, 23, 4)]) htab ⟨⟨by decide, ⟨by decide, by decide⟩, by decide, mw_620, (Nat.le_of_ble_eq_true rfl), (Or.inr ⟨(show decode cL_record 13 = .ok (.astore 4, 2) by decide +kernel), rfl⟩)⟩, ⟨by decide, ⟨by decide, by decide⟩, by decide, mw_527, (Nat.le_of_ble_eq_true rfl), (Or.inr ⟨(show decode cL_record 17 = .ok (.astore 4, 2) by decide +kernel), rfl⟩)⟩, ⟨by decide, ⟨by decide, by decide⟩, by decide, mw_621, (Nat.le_of_ble_eq_true rfl), (Or.inr ⟨(show decode cL_record 21 = .ok (.astore 4, 2) by decide +kernel), rfl⟩)⟩, trivial⟩ (sn_X10_record hl) rfl (show decode cL_record 5 = .ok (.invokevirtual 102, 3) by decide +kernel) mw_1216 mw_1213 mw_1214 mw_1215 mw_93 hd_X10_record ⟨(Nat.le_of_ble_eq_true rfl), (Nat.le_of_ble_eq_true rfl)⟩,
    mm_r_i2l X (show decode cL_record 8 = .ok (.i2l, 1) by decide +kernel),
    mm_r_last X (show decode cL_record 9 = .ok (.lastore, 1) by decide +kernel),
    mm_r_goto X (show decode cL_record 10 = .ok (.goto 15, 3) by decide +kernel) (by decide),
    mm_r_astore X (show decode cL_record 13 = .ok (.astore 4, 2) by decide +kernel) (Nat.le_of_ble_eq_true rfl),
    mm_r_iconst X (show decode cL_record 15 = .ok (.iconst 1, 1) by decide +kernel) rfl,
    mm_r_iret X hret (show decode cL_record 16 = .ok (.ireturn, 1) by decide +kernel),
    mm_r_astore X (show decode cL_record 17 = .ok (.astore 4, 2) by decide +kernel) (Nat.le_of_ble_eq_true rfl),
    mm_r_iconst X (show decode cL_record 19 = .ok (.iconst 2, 1) by decide +kernel) rfl,
    mm_r_iret X hret (show decode cL_record 20 = .ok (.ireturn, 1) by decide +kernel),
    mm_r_astore X (show decode cL_record 21 = .ok (.astore 4, 2) by decide +kernel) (Nat.le_of_ble_eq_true rfl),
    mm_r_iconst X (show decode cL_record 23 = .ok (.iconst 3, 1) by decide +kernel) rfl,
    mm_r_iret X hret (show decode cL_record 24 = .ok (.ireturn, 1) by decide +kernel),
    mm_r_iconst X (show decode cL_record 25 = .ok (.iconst 0, 1) by decide +kernel) rfl,
    mm_r_iret X hret (show decode cL_record 26 = .ok (.ireturn, 1) by decide +kernel), trivial⟩
theorem sn_L_record {l : Launch} (hl : l.stackTraces = false) : mm_Snd l yL_record (.codeWith yL_record cL_record 5 (some .int) [(0, 10, 13, 19), (0, 10, 17, 13), (0, 10, 21, 21)]) 7 113 f_L_record := mm_metH hl (by decide +kernel) (ok_L_record hl)
/-! LinkcourtLaw.ofPerson(LLinkcourt;II[J)I -/
noncomputable def tb_L_ofPerson : List (Nat × mm_I) := [(0, mm_ldR 1 3), (1, mm_k 2 (.int 0)), (2, mm_ldR 3 0), (3, mm_ldI 4 1), (4, mm_ldI 5 2), (5, mm_clC 8 10 2 f_X10_ofPerson [(1, 15, 4), (2, 19, 4)]), (8, mm_il 9 (fun a => a.toInt64)), (9, mm_astJ 10), (10, mm_go 21), (13, mm_stR 15 4), (15, mm_k 16 (.int 1)), (16, mm_rtI), (17, mm_stR 19 4), (19, mm_k 20 (.int 2)), (20, mm_rtI), (21, mm_k 22 (.int 0)), (22, mm_rtI)]
noncomputable def f_L_ofPerson : mm_F := mm_do (mm_pr tb_L_ofPerson) 5
theorem mn_L_ofPerson : mm_alln tb_L_ofPerson := ⟨mm_n_ldR _ _, mm_n_k _ _, mm_n_ldR _ _, mm_n_ldI _ _, mm_n_ldI _ _, mm_n_clC _ _ _ _ (mo_X10_ofPerson), mm_n_il _ _, mm_n_astJ _, mm_n_go _, mm_n_stR _ _, mm_n_k _ _, mm_n_rtI, mm_n_stR _ _, mm_n_k _ _, mm_n_rtI, mm_n_k _ _, mm_n_rtI, trivial⟩
theorem mo_L_ofPerson : mm_Mo f_L_ofPerson := mm_do_mo (mm_alln_mem mn_L_ofPerson)
set_option maxRecDepth 10000 in
theorem ok_L_ofPerson {l : Launch} (hl : l.stackTraces = false) : mm_OkH l yL_ofPerson cL_ofPerson 5 (some .int) [(0, 10, 13, 19), (0, 10, 17, 13)] 7 112 tb_L_ofPerson := by
  refine ⟨mm_alln_mem mn_L_ofPerson, fun p e cells slots s m args below meth c D tc A S ad Tg X hret htab => mm_allr_mem ?_⟩
  exact ⟨mm_r_aload_n X (show decode cL_ofPerson 0 = .ok (.aload_n 3, 1) by decide +kernel) rfl,
    mm_r_iconst X (show decode cL_ofPerson 1 = .ok (.iconst 0, 1) by decide +kernel) rfl,
    mm_r_aload_n X (show decode cL_ofPerson 2 = .ok (.aload_n 0, 1) by decide +kernel) rfl,
    mm_r_iload_n X (show decode cL_ofPerson 3 = .ok (.iload_n 1, 1) by decide +kernel) rfl,
    mm_r_iload_n X (show decode cL_ofPerson 4 = .ok (.iload_n 2, 1) by decide +kernel) rfl,
    mm_r_clC X (ci := 10) (na := 2) (hs := [(1, 15, 4), (2, 19, 4)]) htab ⟨⟨by decide, ⟨by decide, by decide⟩, by decide, mw_620, (Nat.le_of_ble_eq_true rfl), (Or.inr ⟨(show decode cL_ofPerson 13 = .ok (.astore 4, 2) by decide +kernel), rfl⟩)⟩, ⟨by decide, ⟨by decide, by decide⟩, by decide, mw_527, (Nat.le_of_ble_eq_true rfl), (Or.inr ⟨(show decode cL_ofPerson 17 = .ok (.astore 4, 2) by decide +kernel), rfl⟩)⟩, trivial⟩ (sn_X10_ofPerson hl) rfl (show decode cL_ofPerson 5 = .ok (.invokevirtual 105, 3) by decide +kernel) mw_1244 mw_1241 mw_1242 mw_1243 mw_93 hd_X10_ofPerson ⟨(Nat.le_of_ble_eq_true rfl), (Nat.le_of_ble_eq_true rfl)⟩,
    mm_r_i2l X (show decode cL_ofPerson 8 = .ok (.i2l, 1) by decide +kernel),
    mm_r_last X (show decode cL_ofPerson 9 = .ok (.lastore, 1) by decide +kernel),
    mm_r_goto X (show decode cL_ofPerson 10 = .ok (.goto 11, 3) by decide +kernel) (by decide),
    mm_r_astore X (show decode cL_ofPerson 13 = .ok (.astore 4, 2) by decide +kernel) (Nat.le_of_ble_eq_true rfl),
    mm_r_iconst X (show decode cL_ofPerson 15 = .ok (.iconst 1, 1) by decide +kernel) rfl,
    mm_r_iret X hret (show decode cL_ofPerson 16 = .ok (.ireturn, 1) by decide +kernel),
    mm_r_astore X (show decode cL_ofPerson 17 = .ok (.astore 4, 2) by decide +kernel) (Nat.le_of_ble_eq_true rfl),
    mm_r_iconst X (show decode cL_ofPerson 19 = .ok (.iconst 2, 1) by decide +kernel) rfl,
    mm_r_iret X hret (show decode cL_ofPerson 20 = .ok (.ireturn, 1) by decide +kernel),
    mm_r_iconst X (show decode cL_ofPerson 21 = .ok (.iconst 0, 1) by decide +kernel) rfl,
    mm_r_iret X hret (show decode cL_ofPerson 22 = .ok (.ireturn, 1) by decide +kernel), trivial⟩
theorem sn_L_ofPerson {l : Launch} (hl : l.stackTraces = false) : mm_Snd l yL_ofPerson (.codeWith yL_ofPerson cL_ofPerson 5 (some .int) [(0, 10, 13, 19), (0, 10, 17, 13)]) 7 112 f_L_ofPerson := mm_metH hl (by decide +kernel) (ok_L_ofPerson hl)
