/-! LinkcourtLaw.cell([II)I -/
noncomputable def tb_L_cell (Ln : Nat) (xs : Nat → Int32) : List (Nat × mm_I) := [(0, mm_ldI 1 1), (1, mm_ldR 2 0), (2, mm_scl 3 Ln), (3, mm_ge2 12 6), (6, mm_ldR 7 0), (7, mm_ldI 8 1), (8, mm_scr 9 Ln xs), (9, mm_go 19), (12, mm_k 14 (.int 91183)), (14, mm_ldI 15 1), (15, mm_k 17 (.int 107)), (17, mm_i2 18 (fun a b => a + b)), (18, mm_i2 19 (fun a b => a * b)), (19, mm_stI 20 2), (20, mm_ldI 21 2), (21, mm_ldI 22 2), (22, mm_k 24 (.int 16)), (24, mm_i2 25 (fun a b => (a.toUInt32 >>> (b.toUInt32 &&& Int32.toUInt32 31)).toInt32)), (25, mm_i2 26 (fun a b => a ^^^ b)), (26, mm_k 28 (.int 1014203201)), (28, mm_i2 29 (fun a b => a * b)), (29, mm_k 32 (.int 323)), (32, mm_ldI 33 1), (33, mm_i2 34 (fun a b => a * b)), (34, mm_i2 35 (fun a b => a + b)), (35, mm_rtI)]
noncomputable def f_L_cell (Ln : Nat) (xs : Nat → Int32) : mm_F := mm_do (mm_pr (tb_L_cell Ln xs)) 3
theorem mn_L_cell (Ln : Nat) (xs : Nat → Int32) : mm_alln (tb_L_cell Ln xs) := ⟨mm_n_ldI _ _, mm_n_ldR _ _, mm_n_scl _ _, mm_n_ge2 _ _, mm_n_ldR _ _, mm_n_ldI _ _, mm_n_scr _ _ _, mm_n_go _, mm_n_k _ _, mm_n_ldI _ _, mm_n_k _ _, mm_n_i2 _ _, mm_n_i2 _ _, mm_n_stI _ _, mm_n_ldI _ _, mm_n_ldI _ _, mm_n_k _ _, mm_n_i2 _ _, mm_n_i2 _ _, mm_n_k _ _, mm_n_i2 _ _, mm_n_k _ _, mm_n_ldI _ _, mm_n_i2 _ _, mm_n_i2 _ _, mm_n_rtI, trivial⟩
theorem mo_L_cell (Ln : Nat) (xs : Nat → Int32) : mm_Mo (f_L_cell Ln xs) := mm_do_mo (mm_alln_mem (mn_L_cell Ln xs))
set_option maxRecDepth 20000 in
theorem ok_L_cell {l : Launch} (hl : l.stackTraces = false) (Ln : Nat) (xs : Nat → Int32) : mm_OkC l yL_cell cL_cell 3 (some .int) 1 20 Ln xs (tb_L_cell Ln xs) := by
  refine ⟨mm_alln_mem (mn_L_cell Ln xs), fun p e cells slots s m args below meth c D tc A S ad b Tg X hret hname htab hth hX hbl hb2 hbA => mm_allr_mem ?_⟩
  exact ⟨mm_r_iload_n X (show decode cL_cell 0 = .ok (.iload_n 1, 1) by decide +kernel) rfl,
    mm_r_aload_n X (show decode cL_cell 1 = .ok (.aload_n 0, 1) by decide +kernel) rfl,
    mm_r_scl X hX hbl hb2 (show decode cL_cell 2 = .ok (.arraylength, 1) by decide +kernel) hbA,
    mm_r_ge2 X (show decode cL_cell 3 = .ok (.if_icmp .ge 9, 3) by decide +kernel) (by decide),
    mm_r_aload_n X (show decode cL_cell 6 = .ok (.aload_n 0, 1) by decide +kernel) rfl,
    mm_r_iload_n X (show decode cL_cell 7 = .ok (.iload_n 1, 1) by decide +kernel) rfl,
    mm_r_scr X hX hbl hb2 (show decode cL_cell 8 = .ok (.iaload, 1) by decide +kernel) hbA,
    mm_r_goto X (show decode cL_cell 9 = .ok (.goto 10, 3) by decide +kernel) (by decide),
    mm_r_ldc X (show decode cL_cell 12 = .ok (.ldc 7, 2) by decide +kernel) mw_462,
    mm_r_iload_n X (show decode cL_cell 14 = .ok (.iload_n 1, 1) by decide +kernel) rfl,
    mm_r_bipush X (show decode cL_cell 15 = .ok (.bipush 107, 2) by decide +kernel) rfl,
    mm_r_iadd X (show decode cL_cell 17 = .ok (.iadd, 1) by decide +kernel),
    mm_r_imul X (show decode cL_cell 18 = .ok (.imul, 1) by decide +kernel),
    mm_r_istore_n X (show decode cL_cell 19 = .ok (.istore_n 2, 1) by decide +kernel) rfl (Nat.le_of_ble_eq_true rfl),
    mm_r_iload_n X (show decode cL_cell 20 = .ok (.iload_n 2, 1) by decide +kernel) rfl,
    mm_r_iload_n X (show decode cL_cell 21 = .ok (.iload_n 2, 1) by decide +kernel) rfl,
    mm_r_bipush X (show decode cL_cell 22 = .ok (.bipush 16, 2) by decide +kernel) rfl,
    mm_r_iushr X (show decode cL_cell 24 = .ok (.iushr, 1) by decide +kernel),
    mm_r_ixor X (show decode cL_cell 25 = .ok (.ixor, 1) by decide +kernel),
    mm_r_ldc X (show decode cL_cell 26 = .ok (.ldc 8, 2) by decide +kernel) mw_463,
    mm_r_imul X (show decode cL_cell 28 = .ok (.imul, 1) by decide +kernel),
    mm_r_sipush X (show decode cL_cell 29 = .ok (.sipush 323, 3) by decide +kernel) rfl,
    mm_r_iload_n X (show decode cL_cell 32 = .ok (.iload_n 1, 1) by decide +kernel) rfl,
    mm_r_imul X (show decode cL_cell 33 = .ok (.imul, 1) by decide +kernel),
    mm_r_iadd X (show decode cL_cell 34 = .ok (.iadd, 1) by decide +kernel),
    mm_r_iret X hret (show decode cL_cell 35 = .ok (.ireturn, 1) by decide +kernel), trivial⟩
theorem sn_L_cell {l : Launch} (hl : l.stackTraces = false) (Ln : Nat) (xs : Nat → Int32) : mm_SndC l yL_cell (.code yL_cell cL_cell 3 (some .int)) 1 20 Ln xs (f_L_cell Ln xs) := mm_metC hl (plainFor_of_name (by decide +kernel)) (ok_L_cell hl Ln xs)
