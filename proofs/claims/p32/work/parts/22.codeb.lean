/-! codes: by program (wip/p32/gen/gencode.py) -/
/-! Linkcourt$Gaps.<init>()V -/
noncomputable def tb_X2_init : List (Nat × mm_I) := [(0, mm_ldR 1 0), (1, mm_obj 4), (4, mm_ldR 5 0), (5, mm_k 7 (.int 9)), (7, mm_nwa 9 0), (9, mm_pfR 12 2 0), (12, mm_ldR 13 0), (13, mm_k 16 (.int 512)), (16, mm_nwa 18 0), (18, mm_pfR 21 2 1), (21, mm_k 22 (.int 1)), (22, mm_stI 23 1), (23, mm_ldI 24 1), (24, mm_k 27 (.int 512)), (27, mm_ge2 56 30), (30, mm_ldR 31 0), (31, mm_gfR 34 2 1), (34, mm_ldI 35 1), (35, mm_k 36 (.int 3)), (36, mm_ldR 37 0), (37, mm_gfR 40 2 1), (40, mm_ldI 41 1), (41, mm_k 42 (.int 1)), (42, mm_i2 43 (fun a b => a >>> (b &&& 31))), (43, mm_ald 44 0), (44, mm_i2 45 (fun a b => a * b)), (45, mm_ldI 46 1), (46, mm_k 47 (.int 1)), (47, mm_i2 48 (fun a b => a &&& b)), (48, mm_i2 49 (fun a b => a + b)), (49, mm_ast 50 0 (fun v => v)), (50, mm_inc 53 1 1), (53, mm_go 23), (56, mm_rtV)]
noncomputable def f_X2_init : mm_F := mm_do (mm_pr tb_X2_init) 2
theorem mn_X2_init : mm_alln tb_X2_init := ⟨mm_n_ldR _ _, mm_n_obj _, mm_n_ldR _ _, mm_n_k _ _, mm_n_nwa _ _, mm_n_pfR _ _ _, mm_n_ldR _ _, mm_n_k _ _, mm_n_nwa _ _, mm_n_pfR _ _ _, mm_n_k _ _, mm_n_stI _ _, mm_n_ldI _ _, mm_n_k _ _, mm_n_ge2 _ _, mm_n_ldR _ _, mm_n_gfR _ _ _, mm_n_ldI _ _, mm_n_k _ _, mm_n_ldR _ _, mm_n_gfR _ _ _, mm_n_ldI _ _, mm_n_k _ _, mm_n_i2 _ _, mm_n_ald _ _, mm_n_i2 _ _, mm_n_ldI _ _, mm_n_k _ _, mm_n_i2 _ _, mm_n_i2 _ _, mm_n_ast _ _ _, mm_n_inc _ _ _, mm_n_go _, mm_n_rtV, trivial⟩
theorem mo_X2_init : mm_Mo f_X2_init := mm_do_mo (mm_alln_mem mn_X2_init)
set_option maxRecDepth 10000 in
theorem ok_X2_init {l : Launch} (hl : l.stackTraces = false) : mm_Ok l yX2_init cX2_init 2 none 1 20 tb_X2_init := by
  refine ⟨mm_alln_mem mn_X2_init, fun p e cells slots s m args below meth c D tc A S ad Tg X hret hname htab hth => mm_allr_mem ?_⟩
  exact ⟨mm_r_aload_n X (show decode cX2_init 0 = .ok (.aload_n 0, 1) by decide +kernel) rfl,
    mm_r_obj X (show decode cX2_init 1 = .ok (.invokespecial 3, 3) by decide +kernel) mw_249 mw_71 mw_72 (Nat.le_of_ble_eq_true rfl) (Nat.le_of_ble_eq_true rfl),
    mm_r_aload_n X (show decode cX2_init 4 = .ok (.aload_n 0, 1) by decide +kernel) rfl,
    mm_r_bipush X (show decode cX2_init 5 = .ok (.bipush 9, 2) by decide +kernel) rfl,
    mm_r_nwa X (t := 0) (Nat.le_of_ble_eq_true rfl) rfl (show decode cX2_init 7 = .ok (.newarray .int, 2) by decide +kernel) mw_122,
    mm_r_pfR X (ci := 2) (p := 0) (show mm_kd 2 0 = 2 by decide +kernel) (Or.inl ⟨_, rfl⟩) hname rfl rfl (Nat.le_of_ble_eq_true rfl) (show decode cX2_init 9 = .ok (.putfield 9, 3) by decide +kernel) mw_250 rfl rfl,
    mm_r_aload_n X (show decode cX2_init 12 = .ok (.aload_n 0, 1) by decide +kernel) rfl,
    mm_r_sipush X (show decode cX2_init 13 = .ok (.sipush 512, 3) by decide +kernel) rfl,
    mm_r_nwa X (t := 0) (Nat.le_of_ble_eq_true rfl) rfl (show decode cX2_init 16 = .ok (.newarray .int, 2) by decide +kernel) mw_122,
    mm_r_pfR X (ci := 2) (p := 1) (show mm_kd 2 1 = 2 by decide +kernel) (Or.inl ⟨_, rfl⟩) hname rfl rfl (Nat.le_of_ble_eq_true rfl) (show decode cX2_init 18 = .ok (.putfield 15, 3) by decide +kernel) mw_251 rfl rfl,
    mm_r_iconst X (show decode cX2_init 21 = .ok (.iconst 1, 1) by decide +kernel) rfl,
    mm_r_istore_n X (show decode cX2_init 22 = .ok (.istore_n 1, 1) by decide +kernel) rfl (Nat.le_of_ble_eq_true rfl),
    mm_r_iload_n X (show decode cX2_init 23 = .ok (.iload_n 1, 1) by decide +kernel) rfl,
    mm_r_sipush X (show decode cX2_init 24 = .ok (.sipush 512, 3) by decide +kernel) rfl,
    mm_r_ge2 X (show decode cX2_init 27 = .ok (.if_icmp .ge 29, 3) by decide +kernel) (by decide),
    mm_r_aload_n X (show decode cX2_init 30 = .ok (.aload_n 0, 1) by decide +kernel) rfl,
    mm_r_gfR X (ci := 2) (p := 1) (show mm_kd 2 1 = 2 by decide +kernel) rfl (Nat.le_of_ble_eq_true rfl) (show decode cX2_init 31 = .ok (.getfield 15, 3) by decide +kernel) mw_251 rfl,
    mm_r_iload_n X (show decode cX2_init 34 = .ok (.iload_n 1, 1) by decide +kernel) rfl,
    mm_r_iconst X (show decode cX2_init 35 = .ok (.iconst 3, 1) by decide +kernel) rfl,
    mm_r_aload_n X (show decode cX2_init 36 = .ok (.aload_n 0, 1) by decide +kernel) rfl,
    mm_r_gfR X (ci := 2) (p := 1) (show mm_kd 2 1 = 2 by decide +kernel) rfl (Nat.le_of_ble_eq_true rfl) (show decode cX2_init 37 = .ok (.getfield 15, 3) by decide +kernel) mw_251 rfl,
    mm_r_iload_n X (show decode cX2_init 40 = .ok (.iload_n 1, 1) by decide +kernel) rfl,
    mm_r_iconst X (show decode cX2_init 41 = .ok (.iconst 1, 1) by decide +kernel) rfl,
    mm_r_ishr X (show decode cX2_init 42 = .ok (.ishr, 1) by decide +kernel),
    mm_r_iald X (show decode cX2_init 43 = .ok (.iaload, 1) by decide +kernel),
    mm_r_imul X (show decode cX2_init 44 = .ok (.imul, 1) by decide +kernel),
    mm_r_iload_n X (show decode cX2_init 45 = .ok (.iload_n 1, 1) by decide +kernel) rfl,
    mm_r_iconst X (show decode cX2_init 46 = .ok (.iconst 1, 1) by decide +kernel) rfl,
    mm_r_iand X (show decode cX2_init 47 = .ok (.iand, 1) by decide +kernel),
    mm_r_iadd X (show decode cX2_init 48 = .ok (.iadd, 1) by decide +kernel),
    mm_r_iast X (show decode cX2_init 49 = .ok (.iastore, 1) by decide +kernel),
    mm_r_iinc X (show decode cX2_init 50 = .ok (.iinc 1 1, 3) by decide +kernel) rfl (Nat.le_of_ble_eq_true rfl),
    mm_r_goto X (show decode cX2_init 53 = .ok (.goto (-30), 3) by decide +kernel) (by decide),
    mm_r_vret X hret (show decode cX2_init 56 = .ok (.return_, 1) by decide +kernel), trivial⟩
theorem sn_X2_init {l : Launch} (hl : l.stackTraces = false) : mm_Snd l yX2_init (.code yX2_init cX2_init 2 none) 1 20 f_X2_init := mm_met hl (plainFor_of_name (by decide +kernel)) (ok_X2_init hl)
/-! Linkcourt$BestPlay.<init>(LLinkcourt$Board;)V -/
noncomputable def tb_X0_init : List (Nat × mm_I) := [(0, mm_ldR 1 0), (1, mm_obj 4), (4, mm_ldR 5 0), (5, mm_new 8 2), (8, mm_dup 9), (9, mm_clV 12 2 0 f_X2_init), (12, mm_pfR 15 0 1), (15, mm_ldR 16 0), (16, mm_k 19 (.int 1024)), (19, mm_nwa 21 2), (21, mm_pfR 24 0 2), (24, mm_ldR 25 0), (25, mm_k 28 (.int 19683)), (28, mm_nwa 30 2), (30, mm_pfR 33 0 3), (33, mm_ldR 34 0), (34, mm_ldR 35 1), (35, mm_pfR 38 0 0), (38, mm_rtV)]
noncomputable def f_X0_init : mm_F := mm_do (mm_pr tb_X0_init) 2
theorem mn_X0_init : mm_alln tb_X0_init := ⟨mm_n_ldR _ _, mm_n_obj _, mm_n_ldR _ _, mm_n_new _ _, mm_n_dup _, mm_n_clV _ _ _ (mo_X2_init), mm_n_pfR _ _ _, mm_n_ldR _ _, mm_n_k _ _, mm_n_nwa _ _, mm_n_pfR _ _ _, mm_n_ldR _ _, mm_n_k _ _, mm_n_nwa _ _, mm_n_pfR _ _ _, mm_n_ldR _ _, mm_n_ldR _ _, mm_n_pfR _ _ _, mm_n_rtV, trivial⟩
theorem mo_X0_init : mm_Mo f_X0_init := mm_do_mo (mm_alln_mem mn_X0_init)
set_option maxRecDepth 10000 in
theorem ok_X0_init {l : Launch} (hl : l.stackTraces = false) : mm_Ok l yX0_init cX0_init 2 none 2 41 tb_X0_init := by
  refine ⟨mm_alln_mem mn_X0_init, fun p e cells slots s m args below meth c D tc A S ad Tg X hret hname htab hth => mm_allr_mem ?_⟩
  exact ⟨mm_r_aload_n X (show decode cX0_init 0 = .ok (.aload_n 0, 1) by decide +kernel) rfl,
    mm_r_obj X (show decode cX0_init 1 = .ok (.invokespecial 3, 3) by decide +kernel) mw_243 mw_71 mw_72 (Nat.le_of_ble_eq_true rfl) (Nat.le_of_ble_eq_true rfl),
    mm_r_aload_n X (show decode cX0_init 4 = .ok (.aload_n 0, 1) by decide +kernel) rfl,
    mm_r_new X (ci := 2) rfl (by decide +kernel) (show decode cX0_init 5 = .ok (.new 9, 3) by decide +kernel) mw_244 mw_245 mw_49,
    mm_r_dup X (show decode cX0_init 8 = .ok (.dup, 1) by decide +kernel),
    mm_r_clI X hth (ci := 2) (na := 0) (sn_X2_init hl) (show decode cX0_init 9 = .ok (.invokespecial 11, 3) by decide +kernel) mw_248 mw_246 mw_247 mw_49 rfl hd_X2_init.2 ⟨(Nat.le_of_ble_eq_true rfl), (Nat.le_of_ble_eq_true rfl)⟩,
    mm_r_pfR X (ci := 0) (p := 1) (show mm_kd 0 1 = 2 by decide +kernel) (Or.inr ⟨_, rfl⟩) hname rfl rfl (Nat.le_of_ble_eq_true rfl) (show decode cX0_init 12 = .ok (.putfield 12, 3) by decide +kernel) mw_263 rfl rfl,
    mm_r_aload_n X (show decode cX0_init 15 = .ok (.aload_n 0, 1) by decide +kernel) rfl,
    mm_r_sipush X (show decode cX0_init 16 = .ok (.sipush 1024, 3) by decide +kernel) rfl,
    mm_r_nwa X (t := 2) (Nat.le_of_ble_eq_true rfl) rfl (show decode cX0_init 19 = .ok (.newarray .byte, 2) by decide +kernel) mw_287,
    mm_r_pfR X (ci := 0) (p := 2) (show mm_kd 0 2 = 2 by decide +kernel) (Or.inl ⟨_, rfl⟩) hname rfl rfl (Nat.le_of_ble_eq_true rfl) (show decode cX0_init 21 = .ok (.putfield 18, 3) by decide +kernel) mw_264 rfl rfl,
    mm_r_aload_n X (show decode cX0_init 24 = .ok (.aload_n 0, 1) by decide +kernel) rfl,
    mm_r_sipush X (show decode cX0_init 25 = .ok (.sipush 19683, 3) by decide +kernel) rfl,
    mm_r_nwa X (t := 2) (Nat.le_of_ble_eq_true rfl) rfl (show decode cX0_init 28 = .ok (.newarray .byte, 2) by decide +kernel) mw_287,
    mm_r_pfR X (ci := 0) (p := 3) (show mm_kd 0 3 = 2 by decide +kernel) (Or.inl ⟨_, rfl⟩) hname rfl rfl (Nat.le_of_ble_eq_true rfl) (show decode cX0_init 30 = .ok (.putfield 22, 3) by decide +kernel) mw_265 rfl rfl,
    mm_r_aload_n X (show decode cX0_init 33 = .ok (.aload_n 0, 1) by decide +kernel) rfl,
    mm_r_aload_n X (show decode cX0_init 34 = .ok (.aload_n 1, 1) by decide +kernel) rfl,
    mm_r_pfR X (ci := 0) (p := 0) (show mm_kd 0 0 = 2 by decide +kernel) (Or.inr ⟨_, rfl⟩) hname rfl rfl (Nat.le_of_ble_eq_true rfl) (show decode cX0_init 35 = .ok (.putfield 25, 3) by decide +kernel) mw_262 rfl rfl,
    mm_r_vret X hret (show decode cX0_init 38 = .ok (.return_, 1) by decide +kernel), trivial⟩
theorem sn_X0_init {l : Launch} (hl : l.stackTraces = false) : mm_Snd l yX0_init (.code yX0_init cX0_init 2 none) 2 41 f_X0_init := mm_met hl (plainFor_of_name (by decide +kernel)) (ok_X0_init hl)
/-! Linkcourt$Links.<init>(LLinkcourt$Board;)V -/
noncomputable def tb_X4_init : List (Nat × mm_I) := [(0, mm_ldR 1 0), (1, mm_obj 4), (4, mm_ldR 5 0), (5, mm_new 8 2), (8, mm_dup 9), (9, mm_clV 12 2 0 f_X2_init), (12, mm_pfR 15 4 1), (15, mm_ldR 16 0), (16, mm_k 19 (.int 512)), (19, mm_nwa 21 2), (21, mm_pfR 24 4 2), (24, mm_ldR 25 0), (25, mm_k 28 (.int 19683)), (28, mm_nwa 30 2), (30, mm_pfR 33 4 3), (33, mm_ldR 34 0), (34, mm_ldR 35 1), (35, mm_pfR 38 4 0), (38, mm_rtV)]
noncomputable def f_X4_init : mm_F := mm_do (mm_pr tb_X4_init) 2
theorem mn_X4_init : mm_alln tb_X4_init := ⟨mm_n_ldR _ _, mm_n_obj _, mm_n_ldR _ _, mm_n_new _ _, mm_n_dup _, mm_n_clV _ _ _ (mo_X2_init), mm_n_pfR _ _ _, mm_n_ldR _ _, mm_n_k _ _, mm_n_nwa _ _, mm_n_pfR _ _ _, mm_n_ldR _ _, mm_n_k _ _, mm_n_nwa _ _, mm_n_pfR _ _ _, mm_n_ldR _ _, mm_n_ldR _ _, mm_n_pfR _ _ _, mm_n_rtV, trivial⟩
theorem mo_X4_init : mm_Mo f_X4_init := mm_do_mo (mm_alln_mem mn_X4_init)
set_option maxRecDepth 10000 in
theorem ok_X4_init {l : Launch} (hl : l.stackTraces = false) : mm_Ok l yX4_init cX4_init 2 none 2 41 tb_X4_init := by
  refine ⟨mm_alln_mem mn_X4_init, fun p e cells slots s m args below meth c D tc A S ad Tg X hret hname htab hth => mm_allr_mem ?_⟩
  exact ⟨mm_r_aload_n X (show decode cX4_init 0 = .ok (.aload_n 0, 1) by decide +kernel) rfl,
    mm_r_obj X (show decode cX4_init 1 = .ok (.invokespecial 3, 3) by decide +kernel) mw_293 mw_71 mw_72 (Nat.le_of_ble_eq_true rfl) (Nat.le_of_ble_eq_true rfl),
    mm_r_aload_n X (show decode cX4_init 4 = .ok (.aload_n 0, 1) by decide +kernel) rfl,
    mm_r_new X (ci := 2) rfl (by decide +kernel) (show decode cX4_init 5 = .ok (.new 9, 3) by decide +kernel) mw_294 mw_245 mw_49,
    mm_r_dup X (show decode cX4_init 8 = .ok (.dup, 1) by decide +kernel),
    mm_r_clI X hth (ci := 2) (na := 0) (sn_X2_init hl) (show decode cX4_init 9 = .ok (.invokespecial 11, 3) by decide +kernel) mw_248 mw_295 mw_247 mw_49 rfl hd_X2_init.2 ⟨(Nat.le_of_ble_eq_true rfl), (Nat.le_of_ble_eq_true rfl)⟩,
    mm_r_pfR X (ci := 4) (p := 1) (show mm_kd 4 1 = 2 by decide +kernel) (Or.inr ⟨_, rfl⟩) hname rfl rfl (Nat.le_of_ble_eq_true rfl) (show decode cX4_init 12 = .ok (.putfield 12, 3) by decide +kernel) mw_297 rfl rfl,
    mm_r_aload_n X (show decode cX4_init 15 = .ok (.aload_n 0, 1) by decide +kernel) rfl,
    mm_r_sipush X (show decode cX4_init 16 = .ok (.sipush 512, 3) by decide +kernel) rfl,
    mm_r_nwa X (t := 2) (Nat.le_of_ble_eq_true rfl) rfl (show decode cX4_init 19 = .ok (.newarray .byte, 2) by decide +kernel) mw_287,
    mm_r_pfR X (ci := 4) (p := 2) (show mm_kd 4 2 = 2 by decide +kernel) (Or.inl ⟨_, rfl⟩) hname rfl rfl (Nat.le_of_ble_eq_true rfl) (show decode cX4_init 21 = .ok (.putfield 18, 3) by decide +kernel) mw_298 rfl rfl,
    mm_r_aload_n X (show decode cX4_init 24 = .ok (.aload_n 0, 1) by decide +kernel) rfl,
    mm_r_sipush X (show decode cX4_init 25 = .ok (.sipush 19683, 3) by decide +kernel) rfl,
    mm_r_nwa X (t := 2) (Nat.le_of_ble_eq_true rfl) rfl (show decode cX4_init 28 = .ok (.newarray .byte, 2) by decide +kernel) mw_287,
    mm_r_pfR X (ci := 4) (p := 3) (show mm_kd 4 3 = 2 by decide +kernel) (Or.inl ⟨_, rfl⟩) hname rfl rfl (Nat.le_of_ble_eq_true rfl) (show decode cX4_init 30 = .ok (.putfield 22, 3) by decide +kernel) mw_299 rfl rfl,
    mm_r_aload_n X (show decode cX4_init 33 = .ok (.aload_n 0, 1) by decide +kernel) rfl,
    mm_r_aload_n X (show decode cX4_init 34 = .ok (.aload_n 1, 1) by decide +kernel) rfl,
    mm_r_pfR X (ci := 4) (p := 0) (show mm_kd 4 0 = 2 by decide +kernel) (Or.inr ⟨_, rfl⟩) hname rfl rfl (Nat.le_of_ble_eq_true rfl) (show decode cX4_init 35 = .ok (.putfield 25, 3) by decide +kernel) mw_296 rfl rfl,
    mm_r_vret X hret (show decode cX4_init 38 = .ok (.return_, 1) by decide +kernel), trivial⟩
theorem sn_X4_init {l : Launch} (hl : l.stackTraces = false) : mm_Snd l yX4_init (.code yX4_init cX4_init 2 none) 2 41 f_X4_init := mm_met hl (plainFor_of_name (by decide +kernel)) (ok_X4_init hl)
/-! Linkcourt$Ways.<init>(LLinkcourt$Board;)V -/
noncomputable def tb_X9_init : List (Nat × mm_I) := [(0, mm_ldR 1 0), (1, mm_obj 4), (4, mm_ldR 5 0), (5, mm_k 7 (.int 108)), (7, mm_nwa 9 0), (9, mm_pfR 12 9 1), (12, mm_ldR 13 0), (13, mm_ldR 14 1), (14, mm_pfR 17 9 0), (17, mm_rtV)]
noncomputable def f_X9_init : mm_F := mm_do (mm_pr tb_X9_init) 2
theorem mn_X9_init : mm_alln tb_X9_init := ⟨mm_n_ldR _ _, mm_n_obj _, mm_n_ldR _ _, mm_n_k _ _, mm_n_nwa _ _, mm_n_pfR _ _ _, mm_n_ldR _ _, mm_n_ldR _ _, mm_n_pfR _ _ _, mm_n_rtV, trivial⟩
theorem mo_X9_init : mm_Mo f_X9_init := mm_do_mo (mm_alln_mem mn_X9_init)
set_option maxRecDepth 10000 in
theorem ok_X9_init {l : Launch} (hl : l.stackTraces = false) : mm_Ok l yX9_init cX9_init 2 none 1 20 tb_X9_init := by
  refine ⟨mm_alln_mem mn_X9_init, fun p e cells slots s m args below meth c D tc A S ad Tg X hret hname htab hth => mm_allr_mem ?_⟩
  exact ⟨mm_r_aload_n X (show decode cX9_init 0 = .ok (.aload_n 0, 1) by decide +kernel) rfl,
    mm_r_obj X (show decode cX9_init 1 = .ok (.invokespecial 3, 3) by decide +kernel) mw_323 mw_71 mw_72 (Nat.le_of_ble_eq_true rfl) (Nat.le_of_ble_eq_true rfl),
    mm_r_aload_n X (show decode cX9_init 4 = .ok (.aload_n 0, 1) by decide +kernel) rfl,
    mm_r_bipush X (show decode cX9_init 5 = .ok (.bipush 108, 2) by decide +kernel) rfl,
    mm_r_nwa X (t := 0) (Nat.le_of_ble_eq_true rfl) rfl (show decode cX9_init 7 = .ok (.newarray .int, 2) by decide +kernel) mw_122,
    mm_r_pfR X (ci := 9) (p := 1) (show mm_kd 9 1 = 2 by decide +kernel) (Or.inl ⟨_, rfl⟩) hname rfl rfl (Nat.le_of_ble_eq_true rfl) (show decode cX9_init 9 = .ok (.putfield 11, 3) by decide +kernel) mw_325 rfl rfl,
    mm_r_aload_n X (show decode cX9_init 12 = .ok (.aload_n 0, 1) by decide +kernel) rfl,
    mm_r_aload_n X (show decode cX9_init 13 = .ok (.aload_n 1, 1) by decide +kernel) rfl,
    mm_r_pfR X (ci := 9) (p := 0) (show mm_kd 9 0 = 2 by decide +kernel) (Or.inr ⟨_, rfl⟩) hname rfl rfl (Nat.le_of_ble_eq_true rfl) (show decode cX9_init 14 = .ok (.putfield 15, 3) by decide +kernel) mw_324 rfl rfl,
    mm_r_vret X hret (show decode cX9_init 17 = .ok (.return_, 1) by decide +kernel), trivial⟩
theorem sn_X9_init {l : Launch} (hl : l.stackTraces = false) : mm_Snd l yX9_init (.code yX9_init cX9_init 2 none) 1 20 f_X9_init := mm_met hl (plainFor_of_name (by decide +kernel)) (ok_X9_init hl)
/-! Linkcourt$PlayingOut.<init>(LLinkcourt$Board;)V -/
noncomputable def tb_X7_init : List (Nat × mm_I) := [(0, mm_ldR 1 0), (1, mm_obj 4), (4, mm_ldR 5 0), (5, mm_ldR 6 1), (6, mm_pfR 9 7 0), (9, mm_rtV)]
noncomputable def f_X7_init : mm_F := mm_do (mm_pr tb_X7_init) 2
theorem mn_X7_init : mm_alln tb_X7_init := ⟨mm_n_ldR _ _, mm_n_obj _, mm_n_ldR _ _, mm_n_ldR _ _, mm_n_pfR _ _ _, mm_n_rtV, trivial⟩
theorem mo_X7_init : mm_Mo f_X7_init := mm_do_mo (mm_alln_mem mn_X7_init)
set_option maxRecDepth 10000 in
theorem ok_X7_init {l : Launch} (hl : l.stackTraces = false) : mm_Ok l yX7_init cX7_init 2 none 1 20 tb_X7_init := by
  refine ⟨mm_alln_mem mn_X7_init, fun p e cells slots s m args below meth c D tc A S ad Tg X hret hname htab hth => mm_allr_mem ?_⟩
  exact ⟨mm_r_aload_n X (show decode cX7_init 0 = .ok (.aload_n 0, 1) by decide +kernel) rfl,
    mm_r_obj X (show decode cX7_init 1 = .ok (.invokespecial 3, 3) by decide +kernel) mw_336 mw_71 mw_72 (Nat.le_of_ble_eq_true rfl) (Nat.le_of_ble_eq_true rfl),
    mm_r_aload_n X (show decode cX7_init 4 = .ok (.aload_n 0, 1) by decide +kernel) rfl,
    mm_r_aload_n X (show decode cX7_init 5 = .ok (.aload_n 1, 1) by decide +kernel) rfl,
    mm_r_pfR X (ci := 7) (p := 0) (show mm_kd 7 0 = 2 by decide +kernel) (Or.inr ⟨_, rfl⟩) hname rfl rfl (Nat.le_of_ble_eq_true rfl) (show decode cX7_init 6 = .ok (.putfield 9, 3) by decide +kernel) mw_337 rfl rfl,
    mm_r_vret X hret (show decode cX7_init 9 = .ok (.return_, 1) by decide +kernel), trivial⟩
theorem sn_X7_init {l : Launch} (hl : l.stackTraces = false) : mm_Snd l yX7_init (.code yX7_init cX7_init 2 none) 1 20 f_X7_init := mm_met hl (plainFor_of_name (by decide +kernel)) (ok_X7_init hl)
/-! Linkcourt$Patterns.<init>(LLinkcourt$Board;)V -/
noncomputable def tb_X5_init : List (Nat × mm_I) := [(0, mm_ldR 1 0), (1, mm_obj 4), (4, mm_ldR 5 0), (5, mm_k 7 (.int 30)), (7, mm_nwa 9 3), (9, mm_pfR 12 5 1), (12, mm_ldR 13 0), (13, mm_k 16 (.int 180)), (16, mm_nwa 18 3), (18, mm_pfR 21 5 2), (21, mm_ldR 22 0), (22, mm_k 24 (.int 6)), (24, mm_nwa 26 0), (26, mm_pfR 29 5 3), (29, mm_ldR 30 0), (30, mm_k 32 (.int 24)), (32, mm_nwa 34 0), (34, mm_pfR 37 5 4), (37, mm_ldR 38 0), (38, mm_k 40 (.int 6)), (40, mm_nwa 42 0), (42, mm_pfR 45 5 5), (45, mm_ldR 46 0), (46, mm_ldR 47 1), (47, mm_pfR 50 5 0), (50, mm_rtV)]
noncomputable def f_X5_init : mm_F := mm_do (mm_pr tb_X5_init) 2
theorem mn_X5_init : mm_alln tb_X5_init := ⟨mm_n_ldR _ _, mm_n_obj _, mm_n_ldR _ _, mm_n_k _ _, mm_n_nwa _ _, mm_n_pfR _ _ _, mm_n_ldR _ _, mm_n_k _ _, mm_n_nwa _ _, mm_n_pfR _ _ _, mm_n_ldR _ _, mm_n_k _ _, mm_n_nwa _ _, mm_n_pfR _ _ _, mm_n_ldR _ _, mm_n_k _ _, mm_n_nwa _ _, mm_n_pfR _ _ _, mm_n_ldR _ _, mm_n_k _ _, mm_n_nwa _ _, mm_n_pfR _ _ _, mm_n_ldR _ _, mm_n_ldR _ _, mm_n_pfR _ _ _, mm_n_rtV, trivial⟩
theorem mo_X5_init : mm_Mo f_X5_init := mm_do_mo (mm_alln_mem mn_X5_init)
set_option maxRecDepth 10000 in
theorem ok_X5_init {l : Launch} (hl : l.stackTraces = false) : mm_Ok l yX5_init cX5_init 2 none 1 20 tb_X5_init := by
  refine ⟨mm_alln_mem mn_X5_init, fun p e cells slots s m args below meth c D tc A S ad Tg X hret hname htab hth => mm_allr_mem ?_⟩
  exact ⟨mm_r_aload_n X (show decode cX5_init 0 = .ok (.aload_n 0, 1) by decide +kernel) rfl,
    mm_r_obj X (show decode cX5_init 1 = .ok (.invokespecial 5, 3) by decide +kernel) mw_349 mw_71 mw_72 (Nat.le_of_ble_eq_true rfl) (Nat.le_of_ble_eq_true rfl),
    mm_r_aload_n X (show decode cX5_init 4 = .ok (.aload_n 0, 1) by decide +kernel) rfl,
    mm_r_bipush X (show decode cX5_init 5 = .ok (.bipush 30, 2) by decide +kernel) rfl,
    mm_r_nwa X (t := 3) (Nat.le_of_ble_eq_true rfl) rfl (show decode cX5_init 7 = .ok (.newarray .char, 2) by decide +kernel) mw_377,
    mm_r_pfR X (ci := 5) (p := 1) (show mm_kd 5 1 = 2 by decide +kernel) (Or.inl ⟨_, rfl⟩) hname rfl rfl (Nat.le_of_ble_eq_true rfl) (show decode cX5_init 9 = .ok (.putfield 11, 3) by decide +kernel) mw_351 rfl rfl,
    mm_r_aload_n X (show decode cX5_init 12 = .ok (.aload_n 0, 1) by decide +kernel) rfl,
    mm_r_sipush X (show decode cX5_init 13 = .ok (.sipush 180, 3) by decide +kernel) rfl,
    mm_r_nwa X (t := 3) (Nat.le_of_ble_eq_true rfl) rfl (show decode cX5_init 16 = .ok (.newarray .char, 2) by decide +kernel) mw_377,
    mm_r_pfR X (ci := 5) (p := 2) (show mm_kd 5 2 = 2 by decide +kernel) (Or.inl ⟨_, rfl⟩) hname rfl rfl (Nat.le_of_ble_eq_true rfl) (show decode cX5_init 18 = .ok (.putfield 15, 3) by decide +kernel) mw_352 rfl rfl,
    mm_r_aload_n X (show decode cX5_init 21 = .ok (.aload_n 0, 1) by decide +kernel) rfl,
    mm_r_bipush X (show decode cX5_init 22 = .ok (.bipush 6, 2) by decide +kernel) rfl,
    mm_r_nwa X (t := 0) (Nat.le_of_ble_eq_true rfl) rfl (show decode cX5_init 24 = .ok (.newarray .int, 2) by decide +kernel) mw_122,
    mm_r_pfR X (ci := 5) (p := 3) (show mm_kd 5 3 = 2 by decide +kernel) (Or.inl ⟨_, rfl⟩) hname rfl rfl (Nat.le_of_ble_eq_true rfl) (show decode cX5_init 26 = .ok (.putfield 18, 3) by decide +kernel) mw_353 rfl rfl,
    mm_r_aload_n X (show decode cX5_init 29 = .ok (.aload_n 0, 1) by decide +kernel) rfl,
    mm_r_bipush X (show decode cX5_init 30 = .ok (.bipush 24, 2) by decide +kernel) rfl,
    mm_r_nwa X (t := 0) (Nat.le_of_ble_eq_true rfl) rfl (show decode cX5_init 32 = .ok (.newarray .int, 2) by decide +kernel) mw_122,
    mm_r_pfR X (ci := 5) (p := 4) (show mm_kd 5 4 = 2 by decide +kernel) (Or.inl ⟨_, rfl⟩) hname rfl rfl (Nat.le_of_ble_eq_true rfl) (show decode cX5_init 34 = .ok (.putfield 22, 3) by decide +kernel) mw_354 rfl rfl,
    mm_r_aload_n X (show decode cX5_init 37 = .ok (.aload_n 0, 1) by decide +kernel) rfl,
    mm_r_bipush X (show decode cX5_init 38 = .ok (.bipush 6, 2) by decide +kernel) rfl,
    mm_r_nwa X (t := 0) (Nat.le_of_ble_eq_true rfl) rfl (show decode cX5_init 40 = .ok (.newarray .int, 2) by decide +kernel) mw_122,
    mm_r_pfR X (ci := 5) (p := 5) (show mm_kd 5 5 = 2 by decide +kernel) (Or.inl ⟨_, rfl⟩) hname rfl rfl (Nat.le_of_ble_eq_true rfl) (show decode cX5_init 42 = .ok (.putfield 25, 3) by decide +kernel) mw_355 rfl rfl,
    mm_r_aload_n X (show decode cX5_init 45 = .ok (.aload_n 0, 1) by decide +kernel) rfl,
    mm_r_aload_n X (show decode cX5_init 46 = .ok (.aload_n 1, 1) by decide +kernel) rfl,
    mm_r_pfR X (ci := 5) (p := 0) (show mm_kd 5 0 = 2 by decide +kernel) (Or.inr ⟨_, rfl⟩) hname rfl rfl (Nat.le_of_ble_eq_true rfl) (show decode cX5_init 47 = .ok (.putfield 28, 3) by decide +kernel) mw_350 rfl rfl,
    mm_r_vret X hret (show decode cX5_init 50 = .ok (.return_, 1) by decide +kernel), trivial⟩
theorem sn_X5_init {l : Launch} (hl : l.stackTraces = false) : mm_Snd l yX5_init (.code yX5_init cX5_init 2 none) 1 20 f_X5_init := mm_met hl (plainFor_of_name (by decide +kernel)) (ok_X5_init hl)
/-! Linkcourt$Times.<init>()V -/
noncomputable def tb_X8_init : List (Nat × mm_I) := [(0, mm_ldR 1 0), (1, mm_obj 4), (4, mm_ldR 5 0), (5, mm_k 6 (.int 2)), (6, mm_nwa 8 0), (8, mm_pfR 11 8 0), (11, mm_ldR 12 0), (12, mm_k 13 (.int 2)), (13, mm_nwa 15 0), (15, mm_pfR 18 8 1), (18, mm_ldR 19 0), (19, mm_k 20 (.int 2)), (20, mm_nwa 22 0), (22, mm_pfR 25 8 2), (25, mm_ldR 26 0), (26, mm_k 27 (.int (-1))), (27, mm_pfI 30 8 5), (30, mm_rtV)]
noncomputable def f_X8_init : mm_F := mm_do (mm_pr tb_X8_init) 1
theorem mn_X8_init : mm_alln tb_X8_init := ⟨mm_n_ldR _ _, mm_n_obj _, mm_n_ldR _ _, mm_n_k _ _, mm_n_nwa _ _, mm_n_pfR _ _ _, mm_n_ldR _ _, mm_n_k _ _, mm_n_nwa _ _, mm_n_pfR _ _ _, mm_n_ldR _ _, mm_n_k _ _, mm_n_nwa _ _, mm_n_pfR _ _ _, mm_n_ldR _ _, mm_n_k _ _, mm_n_pfI _ _ _, mm_n_rtV, trivial⟩
theorem mo_X8_init : mm_Mo f_X8_init := mm_do_mo (mm_alln_mem mn_X8_init)
set_option maxRecDepth 10000 in
theorem ok_X8_init {l : Launch} (hl : l.stackTraces = false) : mm_Ok l yX8_init cX8_init 1 none 1 20 tb_X8_init := by
  refine ⟨mm_alln_mem mn_X8_init, fun p e cells slots s m args below meth c D tc A S ad Tg X hret hname htab hth => mm_allr_mem ?_⟩
  exact ⟨mm_r_aload_n X (show decode cX8_init 0 = .ok (.aload_n 0, 1) by decide +kernel) rfl,
    mm_r_obj X (show decode cX8_init 1 = .ok (.invokespecial 3, 3) by decide +kernel) mw_383 mw_71 mw_72 (Nat.le_of_ble_eq_true rfl) (Nat.le_of_ble_eq_true rfl),
    mm_r_aload_n X (show decode cX8_init 4 = .ok (.aload_n 0, 1) by decide +kernel) rfl,
    mm_r_iconst X (show decode cX8_init 5 = .ok (.iconst 2, 1) by decide +kernel) rfl,
    mm_r_nwa X (t := 0) (Nat.le_of_ble_eq_true rfl) rfl (show decode cX8_init 6 = .ok (.newarray .int, 2) by decide +kernel) mw_122,
    mm_r_pfR X (ci := 8) (p := 0) (show mm_kd 8 0 = 2 by decide +kernel) (Or.inl ⟨_, rfl⟩) hname rfl rfl (Nat.le_of_ble_eq_true rfl) (show decode cX8_init 8 = .ok (.putfield 9, 3) by decide +kernel) mw_384 rfl rfl,
    mm_r_aload_n X (show decode cX8_init 11 = .ok (.aload_n 0, 1) by decide +kernel) rfl,
    mm_r_iconst X (show decode cX8_init 12 = .ok (.iconst 2, 1) by decide +kernel) rfl,
    mm_r_nwa X (t := 0) (Nat.le_of_ble_eq_true rfl) rfl (show decode cX8_init 13 = .ok (.newarray .int, 2) by decide +kernel) mw_122,
    mm_r_pfR X (ci := 8) (p := 1) (show mm_kd 8 1 = 2 by decide +kernel) (Or.inl ⟨_, rfl⟩) hname rfl rfl (Nat.le_of_ble_eq_true rfl) (show decode cX8_init 15 = .ok (.putfield 15, 3) by decide +kernel) mw_385 rfl rfl,
    mm_r_aload_n X (show decode cX8_init 18 = .ok (.aload_n 0, 1) by decide +kernel) rfl,
    mm_r_iconst X (show decode cX8_init 19 = .ok (.iconst 2, 1) by decide +kernel) rfl,
    mm_r_nwa X (t := 0) (Nat.le_of_ble_eq_true rfl) rfl (show decode cX8_init 20 = .ok (.newarray .int, 2) by decide +kernel) mw_122,
    mm_r_pfR X (ci := 8) (p := 2) (show mm_kd 8 2 = 2 by decide +kernel) (Or.inl ⟨_, rfl⟩) hname rfl rfl (Nat.le_of_ble_eq_true rfl) (show decode cX8_init 22 = .ok (.putfield 18, 3) by decide +kernel) mw_386 rfl rfl,
    mm_r_aload_n X (show decode cX8_init 25 = .ok (.aload_n 0, 1) by decide +kernel) rfl,
    mm_r_iconst X (show decode cX8_init 26 = .ok (.iconst (-1), 1) by decide +kernel) rfl,
    mm_r_pfI X (ci := 8) (p := 5) (show mm_kd 8 5 = 0 by decide +kernel) rfl rfl (Nat.le_of_ble_eq_true rfl) (show decode cX8_init 27 = .ok (.putfield 21, 3) by decide +kernel) mw_390 rfl rfl,
    mm_r_vret X hret (show decode cX8_init 30 = .ok (.return_, 1) by decide +kernel), trivial⟩
theorem sn_X8_init {l : Launch} (hl : l.stackTraces = false) : mm_Snd l yX8_init (.code yX8_init cX8_init 1 none) 1 20 f_X8_init := mm_met hl (plainFor_of_name (by decide +kernel)) (ok_X8_init hl)
/-! Linkcourt$Ladder.<init>()V -/
noncomputable def tb_X3_init : List (Nat × mm_I) := [(0, mm_ldR 1 0), (1, mm_obj 4), (4, mm_ldR 5 0), (5, mm_k 7 (.int 10)), (7, mm_nwa 9 0), (9, mm_pfR 12 3 0), (12, mm_ldR 13 0), (13, mm_k 15 (.int 10)), (15, mm_nwa 17 0), (17, mm_pfR 20 3 1), (20, mm_ldR 21 0), (21, mm_k 23 (.int 10)), (23, mm_nwa 25 0), (25, mm_pfR 28 3 2), (28, mm_ldR 29 0), (29, mm_k 31 (.int 10)), (31, mm_nwa 33 0), (33, mm_pfR 36 3 3), (36, mm_rtV)]
noncomputable def f_X3_init : mm_F := mm_do (mm_pr tb_X3_init) 1
theorem mn_X3_init : mm_alln tb_X3_init := ⟨mm_n_ldR _ _, mm_n_obj _, mm_n_ldR _ _, mm_n_k _ _, mm_n_nwa _ _, mm_n_pfR _ _ _, mm_n_ldR _ _, mm_n_k _ _, mm_n_nwa _ _, mm_n_pfR _ _ _, mm_n_ldR _ _, mm_n_k _ _, mm_n_nwa _ _, mm_n_pfR _ _ _, mm_n_ldR _ _, mm_n_k _ _, mm_n_nwa _ _, mm_n_pfR _ _ _, mm_n_rtV, trivial⟩
theorem mo_X3_init : mm_Mo f_X3_init := mm_do_mo (mm_alln_mem mn_X3_init)
set_option maxRecDepth 10000 in
theorem ok_X3_init {l : Launch} (hl : l.stackTraces = false) : mm_Ok l yX3_init cX3_init 1 none 1 20 tb_X3_init := by
  refine ⟨mm_alln_mem mn_X3_init, fun p e cells slots s m args below meth c D tc A S ad Tg X hret hname htab hth => mm_allr_mem ?_⟩
  exact ⟨mm_r_aload_n X (show decode cX3_init 0 = .ok (.aload_n 0, 1) by decide +kernel) rfl,
    mm_r_obj X (show decode cX3_init 1 = .ok (.invokespecial 3, 3) by decide +kernel) mw_410 mw_71 mw_72 (Nat.le_of_ble_eq_true rfl) (Nat.le_of_ble_eq_true rfl),
    mm_r_aload_n X (show decode cX3_init 4 = .ok (.aload_n 0, 1) by decide +kernel) rfl,
    mm_r_bipush X (show decode cX3_init 5 = .ok (.bipush 10, 2) by decide +kernel) rfl,
    mm_r_nwa X (t := 0) (Nat.le_of_ble_eq_true rfl) rfl (show decode cX3_init 7 = .ok (.newarray .int, 2) by decide +kernel) mw_122,
    mm_r_pfR X (ci := 3) (p := 0) (show mm_kd 3 0 = 2 by decide +kernel) (Or.inl ⟨_, rfl⟩) hname rfl rfl (Nat.le_of_ble_eq_true rfl) (show decode cX3_init 9 = .ok (.putfield 11, 3) by decide +kernel) mw_411 rfl rfl,
    mm_r_aload_n X (show decode cX3_init 12 = .ok (.aload_n 0, 1) by decide +kernel) rfl,
    mm_r_bipush X (show decode cX3_init 13 = .ok (.bipush 10, 2) by decide +kernel) rfl,
    mm_r_nwa X (t := 0) (Nat.le_of_ble_eq_true rfl) rfl (show decode cX3_init 15 = .ok (.newarray .int, 2) by decide +kernel) mw_122,
    mm_r_pfR X (ci := 3) (p := 1) (show mm_kd 3 1 = 2 by decide +kernel) (Or.inl ⟨_, rfl⟩) hname rfl rfl (Nat.le_of_ble_eq_true rfl) (show decode cX3_init 17 = .ok (.putfield 15, 3) by decide +kernel) mw_412 rfl rfl,
    mm_r_aload_n X (show decode cX3_init 20 = .ok (.aload_n 0, 1) by decide +kernel) rfl,
    mm_r_bipush X (show decode cX3_init 21 = .ok (.bipush 10, 2) by decide +kernel) rfl,
    mm_r_nwa X (t := 0) (Nat.le_of_ble_eq_true rfl) rfl (show decode cX3_init 23 = .ok (.newarray .int, 2) by decide +kernel) mw_122,
    mm_r_pfR X (ci := 3) (p := 2) (show mm_kd 3 2 = 2 by decide +kernel) (Or.inl ⟨_, rfl⟩) hname rfl rfl (Nat.le_of_ble_eq_true rfl) (show decode cX3_init 25 = .ok (.putfield 18, 3) by decide +kernel) mw_413 rfl rfl,
    mm_r_aload_n X (show decode cX3_init 28 = .ok (.aload_n 0, 1) by decide +kernel) rfl,
    mm_r_bipush X (show decode cX3_init 29 = .ok (.bipush 10, 2) by decide +kernel) rfl,
    mm_r_nwa X (t := 0) (Nat.le_of_ble_eq_true rfl) rfl (show decode cX3_init 31 = .ok (.newarray .int, 2) by decide +kernel) mw_122,
    mm_r_pfR X (ci := 3) (p := 3) (show mm_kd 3 3 = 2 by decide +kernel) (Or.inl ⟨_, rfl⟩) hname rfl rfl (Nat.le_of_ble_eq_true rfl) (show decode cX3_init 33 = .ok (.putfield 21, 3) by decide +kernel) mw_414 rfl rfl,
    mm_r_vret X hret (show decode cX3_init 36 = .ok (.return_, 1) by decide +kernel), trivial⟩
theorem sn_X3_init {l : Launch} (hl : l.stackTraces = false) : mm_Snd l yX3_init (.code yX3_init cX3_init 1 none) 1 20 f_X3_init := mm_met hl (plainFor_of_name (by decide +kernel)) (ok_X3_init hl)
/-! Linkcourt.<init>()V -/
noncomputable def tb_X10_init : List (Nat × mm_I) := [(0, mm_ldR 1 0), (1, mm_obj 4), (4, mm_new 7 1), (7, mm_dup 8), (8, mm_clV 11 1 0 f_X1_init), (11, mm_stR 12 1), (12, mm_ldR 13 1), (13, mm_k 14 (.int 0)), (14, mm_k 15 (.int 2)), (15, mm_k 16 (.int 2)), (16, mm_clV 19 1 3 f_X1_lay), (19, mm_new 22 6), (22, mm_dup 23), (23, mm_ldR 24 1), (24, mm_clV 27 6 1 f_X6_init), (27, mm_stR 28 2), (28, mm_ldR 29 2), (29, mm_clV 32 6 0 f_X6_begin), (32, mm_ldR 33 0), (33, mm_ldR 34 1), (34, mm_pfR 37 10 0), (37, mm_ldR 38 0), (38, mm_ldR 39 2), (39, mm_pfR 42 10 1), (42, mm_ldR 43 0), (43, mm_new 46 0), (46, mm_dup 47), (47, mm_ldR 48 1), (48, mm_clV 51 0 1 f_X0_init), (51, mm_pfR 54 10 2), (54, mm_ldR 55 0), (55, mm_new 58 4), (58, mm_dup 59), (59, mm_ldR 60 1), (60, mm_clV 63 4 1 f_X4_init), (63, mm_pfR 66 10 3), (66, mm_ldR 67 0), (67, mm_new 70 9), (70, mm_dup 71), (71, mm_ldR 72 1), (72, mm_clV 75 9 1 f_X9_init), (75, mm_pfR 78 10 4), (78, mm_ldR 79 0), (79, mm_new 82 7), (82, mm_dup 83), (83, mm_ldR 84 1), (84, mm_clV 87 7 1 f_X7_init), (87, mm_pfR 90 10 5), (90, mm_ldR 91 0), (91, mm_new 94 5), (94, mm_dup 95), (95, mm_ldR 96 1), (96, mm_clV 99 5 1 f_X5_init), (99, mm_pfR 102 10 6), (102, mm_ldR 103 0), (103, mm_new 106 8), (106, mm_dup 107), (107, mm_clV 110 8 0 f_X8_init), (110, mm_pfR 113 10 7), (113, mm_ldR 114 0), (114, mm_new 117 3), (117, mm_dup 118), (118, mm_clV 121 3 0 f_X3_init), (121, mm_pfR 124 10 8), (124, mm_rtV)]
noncomputable def f_X10_init : mm_F := mm_do (mm_pr tb_X10_init) 3
theorem mn_X10_init : mm_alln tb_X10_init := ⟨mm_n_ldR _ _, mm_n_obj _, mm_n_new _ _, mm_n_dup _, mm_n_clV _ _ _ (mo_X1_init), mm_n_stR _ _, mm_n_ldR _ _, mm_n_k _ _, mm_n_k _ _, mm_n_k _ _, mm_n_clV _ _ _ (mo_X1_lay), mm_n_new _ _, mm_n_dup _, mm_n_ldR _ _, mm_n_clV _ _ _ (mo_X6_init), mm_n_stR _ _, mm_n_ldR _ _, mm_n_clV _ _ _ (mo_X6_begin), mm_n_ldR _ _, mm_n_ldR _ _, mm_n_pfR _ _ _, mm_n_ldR _ _, mm_n_ldR _ _, mm_n_pfR _ _ _, mm_n_ldR _ _, mm_n_new _ _, mm_n_dup _, mm_n_ldR _ _, mm_n_clV _ _ _ (mo_X0_init), mm_n_pfR _ _ _, mm_n_ldR _ _, mm_n_new _ _, mm_n_dup _, mm_n_ldR _ _, mm_n_clV _ _ _ (mo_X4_init), mm_n_pfR _ _ _, mm_n_ldR _ _, mm_n_new _ _, mm_n_dup _, mm_n_ldR _ _, mm_n_clV _ _ _ (mo_X9_init), mm_n_pfR _ _ _, mm_n_ldR _ _, mm_n_new _ _, mm_n_dup _, mm_n_ldR _ _, mm_n_clV _ _ _ (mo_X7_init), mm_n_pfR _ _ _, mm_n_ldR _ _, mm_n_new _ _, mm_n_dup _, mm_n_ldR _ _, mm_n_clV _ _ _ (mo_X5_init), mm_n_pfR _ _ _, mm_n_ldR _ _, mm_n_new _ _, mm_n_dup _, mm_n_clV _ _ _ (mo_X8_init), mm_n_pfR _ _ _, mm_n_ldR _ _, mm_n_new _ _, mm_n_dup _, mm_n_clV _ _ _ (mo_X3_init), mm_n_pfR _ _ _, mm_n_rtV, trivial⟩
theorem mo_X10_init : mm_Mo f_X10_init := mm_do_mo (mm_alln_mem mn_X10_init)
set_option maxRecDepth 10000 in
theorem ok_X10_init {l : Launch} (hl : l.stackTraces = false) : mm_Ok l yX10_init cX10_init 3 none 7 163 tb_X10_init := by
  refine ⟨mm_alln_mem mn_X10_init, fun p e cells slots s m args below meth c D tc A S ad Tg X hret hname htab hth => mm_allr_mem ?_⟩
  exact ⟨mm_r_aload_n X (show decode cX10_init 0 = .ok (.aload_n 0, 1) by decide +kernel) rfl,
    mm_r_obj X (show decode cX10_init 1 = .ok (.invokespecial 1, 3) by decide +kernel) mw_70 mw_71 mw_72 (Nat.le_of_ble_eq_true rfl) (Nat.le_of_ble_eq_true rfl),
    mm_r_new X (ci := 1) rfl (by decide +kernel) (show decode cX10_init 4 = .ok (.new 7, 3) by decide +kernel) mw_73 mw_74 mw_45,
    mm_r_dup X (show decode cX10_init 7 = .ok (.dup, 1) by decide +kernel),
    mm_r_clIN X hth (ci := 1) (na := 0) (sn_X1_init hl) (show decode cX10_init 8 = .ok (.invokespecial 9, 3) by decide +kernel) mw_77 (show ("Linkcourt", 9, yX1_init) ∈ mm_nest by decide +kernel) mw_76 mw_45 rfl hd_X1_init.2 ⟨(Nat.le_of_ble_eq_true rfl), (Nat.le_of_ble_eq_true rfl)⟩,
    mm_r_astore_n X (show decode cX10_init 11 = .ok (.astore_n 1, 1) by decide +kernel) rfl (Nat.le_of_ble_eq_true rfl),
    mm_r_aload_n X (show decode cX10_init 12 = .ok (.aload_n 1, 1) by decide +kernel) rfl,
    mm_r_iconst X (show decode cX10_init 13 = .ok (.iconst 0, 1) by decide +kernel) rfl,
    mm_r_iconst X (show decode cX10_init 14 = .ok (.iconst 2, 1) by decide +kernel) rfl,
    mm_r_iconst X (show decode cX10_init 15 = .ok (.iconst 2, 1) by decide +kernel) rfl,
    mm_r_clV X hth (ci := 1) (na := 3) (sn_X1_lay hl) rfl (show decode cX10_init 16 = .ok (.invokevirtual 12, 3) by decide +kernel) mw_127 mw_124 mw_125 mw_126 mw_45 hd_X1_lay ⟨(Nat.le_of_ble_eq_true rfl), (Nat.le_of_ble_eq_true rfl)⟩,
    mm_r_new X (ci := 6) rfl (by decide +kernel) (show decode cX10_init 19 = .ok (.new 16, 3) by decide +kernel) mw_162 mw_163 mw_46,
    mm_r_dup X (show decode cX10_init 22 = .ok (.dup, 1) by decide +kernel),
    mm_r_aload_n X (show decode cX10_init 23 = .ok (.aload_n 1, 1) by decide +kernel) rfl,
    mm_r_clI X hth (ci := 6) (na := 1) (sn_X6_init hl) (show decode cX10_init 24 = .ok (.invokespecial 18, 3) by decide +kernel) mw_166 mw_164 mw_165 mw_46 rfl hd_X6_init.2 ⟨(Nat.le_of_ble_eq_true rfl), (Nat.le_of_ble_eq_true rfl)⟩,
    mm_r_astore_n X (show decode cX10_init 27 = .ok (.astore_n 2, 1) by decide +kernel) rfl (Nat.le_of_ble_eq_true rfl),
    mm_r_aload_n X (show decode cX10_init 28 = .ok (.aload_n 2, 1) by decide +kernel) rfl,
    mm_r_clV X hth (ci := 6) (na := 0) (sn_X6_begin hl) rfl (show decode cX10_init 29 = .ok (.invokevirtual 21, 3) by decide +kernel) mw_198 mw_195 mw_196 mw_197 mw_46 hd_X6_begin ⟨(Nat.le_of_ble_eq_true rfl), (Nat.le_of_ble_eq_true rfl)⟩,
    mm_r_aload_n X (show decode cX10_init 32 = .ok (.aload_n 0, 1) by decide +kernel) rfl,
    mm_r_aload_n X (show decode cX10_init 33 = .ok (.aload_n 1, 1) by decide +kernel) rfl,
    mm_r_pfR X (ci := 10) (p := 0) (show mm_kd 10 0 = 2 by decide +kernel) (Or.inr ⟨_, rfl⟩) hname rfl rfl (Nat.le_of_ble_eq_true rfl) (show decode cX10_init 34 = .ok (.putfield 24, 3) by decide +kernel) mw_428 rfl rfl,
    mm_r_aload_n X (show decode cX10_init 37 = .ok (.aload_n 0, 1) by decide +kernel) rfl,
    mm_r_aload_n X (show decode cX10_init 38 = .ok (.aload_n 2, 1) by decide +kernel) rfl,
    mm_r_pfR X (ci := 10) (p := 1) (show mm_kd 10 1 = 2 by decide +kernel) (Or.inr ⟨_, rfl⟩) hname rfl rfl (Nat.le_of_ble_eq_true rfl) (show decode cX10_init 39 = .ok (.putfield 28, 3) by decide +kernel) mw_429 rfl rfl,
    mm_r_aload_n X (show decode cX10_init 42 = .ok (.aload_n 0, 1) by decide +kernel) rfl,
    mm_r_new X (ci := 0) rfl (by decide +kernel) (show decode cX10_init 43 = .ok (.new 32, 3) by decide +kernel) mw_238 mw_239 mw_48,
    mm_r_dup X (show decode cX10_init 46 = .ok (.dup, 1) by decide +kernel),
    mm_r_aload_n X (show decode cX10_init 47 = .ok (.aload_n 1, 1) by decide +kernel) rfl,
    mm_r_clI X hth (ci := 0) (na := 1) (sn_X0_init hl) (show decode cX10_init 48 = .ok (.invokespecial 34, 3) by decide +kernel) mw_242 mw_240 mw_241 mw_48 rfl hd_X0_init.2 ⟨(Nat.le_of_ble_eq_true rfl), (Nat.le_of_ble_eq_true rfl)⟩,
    mm_r_pfR X (ci := 10) (p := 2) (show mm_kd 10 2 = 2 by decide +kernel) (Or.inr ⟨_, rfl⟩) hname rfl rfl (Nat.le_of_ble_eq_true rfl) (show decode cX10_init 51 = .ok (.putfield 35, 3) by decide +kernel) mw_430 rfl rfl,
    mm_r_aload_n X (show decode cX10_init 54 = .ok (.aload_n 0, 1) by decide +kernel) rfl,
    mm_r_new X (ci := 4) rfl (by decide +kernel) (show decode cX10_init 55 = .ok (.new 39, 3) by decide +kernel) mw_288 mw_289 mw_50,
    mm_r_dup X (show decode cX10_init 58 = .ok (.dup, 1) by decide +kernel),
    mm_r_aload_n X (show decode cX10_init 59 = .ok (.aload_n 1, 1) by decide +kernel) rfl,
    mm_r_clI X hth (ci := 4) (na := 1) (sn_X4_init hl) (show decode cX10_init 60 = .ok (.invokespecial 41, 3) by decide +kernel) mw_292 mw_290 mw_291 mw_50 rfl hd_X4_init.2 ⟨(Nat.le_of_ble_eq_true rfl), (Nat.le_of_ble_eq_true rfl)⟩,
    mm_r_pfR X (ci := 10) (p := 3) (show mm_kd 10 3 = 2 by decide +kernel) (Or.inr ⟨_, rfl⟩) hname rfl rfl (Nat.le_of_ble_eq_true rfl) (show decode cX10_init 63 = .ok (.putfield 42, 3) by decide +kernel) mw_431 rfl rfl,
    mm_r_aload_n X (show decode cX10_init 66 = .ok (.aload_n 0, 1) by decide +kernel) rfl,
    mm_r_new X (ci := 9) rfl (by decide +kernel) (show decode cX10_init 67 = .ok (.new 46, 3) by decide +kernel) mw_318 mw_319 mw_51,
    mm_r_dup X (show decode cX10_init 70 = .ok (.dup, 1) by decide +kernel),
    mm_r_aload_n X (show decode cX10_init 71 = .ok (.aload_n 1, 1) by decide +kernel) rfl,
    mm_r_clI X hth (ci := 9) (na := 1) (sn_X9_init hl) (show decode cX10_init 72 = .ok (.invokespecial 48, 3) by decide +kernel) mw_322 mw_320 mw_321 mw_51 rfl hd_X9_init.2 ⟨(Nat.le_of_ble_eq_true rfl), (Nat.le_of_ble_eq_true rfl)⟩,
    mm_r_pfR X (ci := 10) (p := 4) (show mm_kd 10 4 = 2 by decide +kernel) (Or.inr ⟨_, rfl⟩) hname rfl rfl (Nat.le_of_ble_eq_true rfl) (show decode cX10_init 75 = .ok (.putfield 49, 3) by decide +kernel) mw_432 rfl rfl,
    mm_r_aload_n X (show decode cX10_init 78 = .ok (.aload_n 0, 1) by decide +kernel) rfl,
    mm_r_new X (ci := 7) rfl (by decide +kernel) (show decode cX10_init 79 = .ok (.new 53, 3) by decide +kernel) mw_331 mw_332 mw_52,
    mm_r_dup X (show decode cX10_init 82 = .ok (.dup, 1) by decide +kernel),
    mm_r_aload_n X (show decode cX10_init 83 = .ok (.aload_n 1, 1) by decide +kernel) rfl,
    mm_r_clI X hth (ci := 7) (na := 1) (sn_X7_init hl) (show decode cX10_init 84 = .ok (.invokespecial 55, 3) by decide +kernel) mw_335 mw_333 mw_334 mw_52 rfl hd_X7_init.2 ⟨(Nat.le_of_ble_eq_true rfl), (Nat.le_of_ble_eq_true rfl)⟩,
    mm_r_pfR X (ci := 10) (p := 5) (show mm_kd 10 5 = 2 by decide +kernel) (Or.inr ⟨_, rfl⟩) hname rfl rfl (Nat.le_of_ble_eq_true rfl) (show decode cX10_init 87 = .ok (.putfield 56, 3) by decide +kernel) mw_433 rfl rfl,
    mm_r_aload_n X (show decode cX10_init 90 = .ok (.aload_n 0, 1) by decide +kernel) rfl,
    mm_r_new X (ci := 5) rfl (by decide +kernel) (show decode cX10_init 91 = .ok (.new 60, 3) by decide +kernel) mw_344 mw_345 mw_53,
    mm_r_dup X (show decode cX10_init 94 = .ok (.dup, 1) by decide +kernel),
    mm_r_aload_n X (show decode cX10_init 95 = .ok (.aload_n 1, 1) by decide +kernel) rfl,
    mm_r_clI X hth (ci := 5) (na := 1) (sn_X5_init hl) (show decode cX10_init 96 = .ok (.invokespecial 62, 3) by decide +kernel) mw_348 mw_346 mw_347 mw_53 rfl hd_X5_init.2 ⟨(Nat.le_of_ble_eq_true rfl), (Nat.le_of_ble_eq_true rfl)⟩,
    mm_r_pfR X (ci := 10) (p := 6) (show mm_kd 10 6 = 2 by decide +kernel) (Or.inr ⟨_, rfl⟩) hname rfl rfl (Nat.le_of_ble_eq_true rfl) (show decode cX10_init 99 = .ok (.putfield 63, 3) by decide +kernel) mw_434 rfl rfl,
    mm_r_aload_n X (show decode cX10_init 102 = .ok (.aload_n 0, 1) by decide +kernel) rfl,
    mm_r_new X (ci := 8) rfl (by decide +kernel) (show decode cX10_init 103 = .ok (.new 67, 3) by decide +kernel) mw_378 mw_379 mw_54,
    mm_r_dup X (show decode cX10_init 106 = .ok (.dup, 1) by decide +kernel),
    mm_r_clIN X hth (ci := 8) (na := 0) (sn_X8_init hl) (show decode cX10_init 107 = .ok (.invokespecial 69, 3) by decide +kernel) mw_382 (show ("Linkcourt", 69, yX8_init) ∈ mm_nest by decide +kernel) mw_381 mw_54 rfl hd_X8_init.2 ⟨(Nat.le_of_ble_eq_true rfl), (Nat.le_of_ble_eq_true rfl)⟩,
    mm_r_pfR X (ci := 10) (p := 7) (show mm_kd 10 7 = 2 by decide +kernel) (Or.inr ⟨_, rfl⟩) hname rfl rfl (Nat.le_of_ble_eq_true rfl) (show decode cX10_init 110 = .ok (.putfield 70, 3) by decide +kernel) mw_435 rfl rfl,
    mm_r_aload_n X (show decode cX10_init 113 = .ok (.aload_n 0, 1) by decide +kernel) rfl,
    mm_r_new X (ci := 3) rfl (by decide +kernel) (show decode cX10_init 114 = .ok (.new 74, 3) by decide +kernel) mw_405 mw_406 mw_55,
    mm_r_dup X (show decode cX10_init 117 = .ok (.dup, 1) by decide +kernel),
    mm_r_clIN X hth (ci := 3) (na := 0) (sn_X3_init hl) (show decode cX10_init 118 = .ok (.invokespecial 76, 3) by decide +kernel) mw_409 (show ("Linkcourt", 76, yX3_init) ∈ mm_nest by decide +kernel) mw_408 mw_55 rfl hd_X3_init.2 ⟨(Nat.le_of_ble_eq_true rfl), (Nat.le_of_ble_eq_true rfl)⟩,
    mm_r_pfR X (ci := 10) (p := 8) (show mm_kd 10 8 = 2 by decide +kernel) (Or.inr ⟨_, rfl⟩) hname rfl rfl (Nat.le_of_ble_eq_true rfl) (show decode cX10_init 121 = .ok (.putfield 77, 3) by decide +kernel) mw_436 rfl rfl,
    mm_r_vret X hret (show decode cX10_init 124 = .ok (.return_, 1) by decide +kernel), trivial⟩
theorem sn_X10_init {l : Launch} (hl : l.stackTraces = false) : mm_Snd l yX10_init (.code yX10_init cX10_init 3 none) 7 163 f_X10_init := mm_met hl (plainFor_of_name (by decide +kernel)) (ok_X10_init hl)
/-! Linkcourt.isBoard(III)Z -/
noncomputable def tb_X10_isBoard : List (Nat × mm_I) := [(0, mm_ldI 1 0), (1, mm_lt1 20 4), (4, mm_ldI 5 0), (5, mm_k 6 (.int 2)), (6, mm_gt2 20 9), (9, mm_ldI 10 1), (10, mm_k 11 (.int 2)), (11, mm_lt2 20 14), (14, mm_ldI 15 1), (15, mm_k 17 (.int 6)), (17, mm_le2 22 20), (20, mm_k 21 (.int 0)), (21, mm_rtZ), (22, mm_ldI 23 0), (23, mm_k 24 (.int 1)), (24, mm_ne2 40 27), (27, mm_ldI 28 2), (28, mm_ldI 29 1), (29, mm_ne2 36 32), (32, mm_k 33 (.int 1)), (33, mm_go 65), (36, mm_k 37 (.int 0)), (37, mm_go 65), (40, mm_ldI 41 2), (41, mm_ldI 42 0), (42, mm_k 43 (.int 2)), (43, mm_ne2 50 46), (46, mm_k 47 (.int 3)), (47, mm_go 51), (50, mm_k 51 (.int 2)), (51, mm_lt2 64 54), (54, mm_ldI 55 2), (55, mm_k 57 (.int 6)), (57, mm_gt2 64 60), (60, mm_k 61 (.int 1)), (61, mm_go 65), (64, mm_k 65 (.int 0)), (65, mm_rtZ)]
noncomputable def f_X10_isBoard : mm_F := mm_do (mm_pr tb_X10_isBoard) 3
theorem mn_X10_isBoard : mm_alln tb_X10_isBoard := ⟨mm_n_ldI _ _, mm_n_lt1 _ _, mm_n_ldI _ _, mm_n_k _ _, mm_n_gt2 _ _, mm_n_ldI _ _, mm_n_k _ _, mm_n_lt2 _ _, mm_n_ldI _ _, mm_n_k _ _, mm_n_le2 _ _, mm_n_k _ _, mm_n_rtZ, mm_n_ldI _ _, mm_n_k _ _, mm_n_ne2 _ _, mm_n_ldI _ _, mm_n_ldI _ _, mm_n_ne2 _ _, mm_n_k _ _, mm_n_go _, mm_n_k _ _, mm_n_go _, mm_n_ldI _ _, mm_n_ldI _ _, mm_n_k _ _, mm_n_ne2 _ _, mm_n_k _ _, mm_n_go _, mm_n_k _ _, mm_n_lt2 _ _, mm_n_ldI _ _, mm_n_k _ _, mm_n_gt2 _ _, mm_n_k _ _, mm_n_go _, mm_n_k _ _, mm_n_rtZ, trivial⟩
theorem mo_X10_isBoard : mm_Mo f_X10_isBoard := mm_do_mo (mm_alln_mem mn_X10_isBoard)
set_option maxRecDepth 10000 in
theorem ok_X10_isBoard {l : Launch} (hl : l.stackTraces = false) : mm_Ok l yX10_isBoard cX10_isBoard 3 (some .boolean) 1 20 tb_X10_isBoard := by
  refine ⟨mm_alln_mem mn_X10_isBoard, fun p e cells slots s m args below meth c D tc A S ad Tg X hret hname htab hth => mm_allr_mem ?_⟩
  exact ⟨mm_r_iload_n X (show decode cX10_isBoard 0 = .ok (.iload_n 0, 1) by decide +kernel) rfl,
    mm_r_lt1 X (show decode cX10_isBoard 1 = .ok (.ifCond .lt 19, 3) by decide +kernel) (by decide),
    mm_r_iload_n X (show decode cX10_isBoard 4 = .ok (.iload_n 0, 1) by decide +kernel) rfl,
    mm_r_iconst X (show decode cX10_isBoard 5 = .ok (.iconst 2, 1) by decide +kernel) rfl,
    mm_r_gt2 X (show decode cX10_isBoard 6 = .ok (.if_icmp .gt 14, 3) by decide +kernel) (by decide),
    mm_r_iload_n X (show decode cX10_isBoard 9 = .ok (.iload_n 1, 1) by decide +kernel) rfl,
    mm_r_iconst X (show decode cX10_isBoard 10 = .ok (.iconst 2, 1) by decide +kernel) rfl,
    mm_r_lt2 X (show decode cX10_isBoard 11 = .ok (.if_icmp .lt 9, 3) by decide +kernel) (by decide),
    mm_r_iload_n X (show decode cX10_isBoard 14 = .ok (.iload_n 1, 1) by decide +kernel) rfl,
    mm_r_bipush X (show decode cX10_isBoard 15 = .ok (.bipush 6, 2) by decide +kernel) rfl,
    mm_r_le2 X (show decode cX10_isBoard 17 = .ok (.if_icmp .le 5, 3) by decide +kernel) (by decide),
    mm_r_iconst X (show decode cX10_isBoard 20 = .ok (.iconst 0, 1) by decide +kernel) rfl,
    mm_r_zret X hret (show decode cX10_isBoard 21 = .ok (.ireturn, 1) by decide +kernel),
    mm_r_iload_n X (show decode cX10_isBoard 22 = .ok (.iload_n 0, 1) by decide +kernel) rfl,
    mm_r_iconst X (show decode cX10_isBoard 23 = .ok (.iconst 1, 1) by decide +kernel) rfl,
    mm_r_ne2 X (show decode cX10_isBoard 24 = .ok (.if_icmp .ne 16, 3) by decide +kernel) (by decide),
    mm_r_iload_n X (show decode cX10_isBoard 27 = .ok (.iload_n 2, 1) by decide +kernel) rfl,
    mm_r_iload_n X (show decode cX10_isBoard 28 = .ok (.iload_n 1, 1) by decide +kernel) rfl,
    mm_r_ne2 X (show decode cX10_isBoard 29 = .ok (.if_icmp .ne 7, 3) by decide +kernel) (by decide),
    mm_r_iconst X (show decode cX10_isBoard 32 = .ok (.iconst 1, 1) by decide +kernel) rfl,
    mm_r_goto X (show decode cX10_isBoard 33 = .ok (.goto 32, 3) by decide +kernel) (by decide),
    mm_r_iconst X (show decode cX10_isBoard 36 = .ok (.iconst 0, 1) by decide +kernel) rfl,
    mm_r_goto X (show decode cX10_isBoard 37 = .ok (.goto 28, 3) by decide +kernel) (by decide),
    mm_r_iload_n X (show decode cX10_isBoard 40 = .ok (.iload_n 2, 1) by decide +kernel) rfl,
    mm_r_iload_n X (show decode cX10_isBoard 41 = .ok (.iload_n 0, 1) by decide +kernel) rfl,
    mm_r_iconst X (show decode cX10_isBoard 42 = .ok (.iconst 2, 1) by decide +kernel) rfl,
    mm_r_ne2 X (show decode cX10_isBoard 43 = .ok (.if_icmp .ne 7, 3) by decide +kernel) (by decide),
    mm_r_iconst X (show decode cX10_isBoard 46 = .ok (.iconst 3, 1) by decide +kernel) rfl,
    mm_r_goto X (show decode cX10_isBoard 47 = .ok (.goto 4, 3) by decide +kernel) (by decide),
    mm_r_iconst X (show decode cX10_isBoard 50 = .ok (.iconst 2, 1) by decide +kernel) rfl,
    mm_r_lt2 X (show decode cX10_isBoard 51 = .ok (.if_icmp .lt 13, 3) by decide +kernel) (by decide),
    mm_r_iload_n X (show decode cX10_isBoard 54 = .ok (.iload_n 2, 1) by decide +kernel) rfl,
    mm_r_bipush X (show decode cX10_isBoard 55 = .ok (.bipush 6, 2) by decide +kernel) rfl,
    mm_r_gt2 X (show decode cX10_isBoard 57 = .ok (.if_icmp .gt 7, 3) by decide +kernel) (by decide),
    mm_r_iconst X (show decode cX10_isBoard 60 = .ok (.iconst 1, 1) by decide +kernel) rfl,
    mm_r_goto X (show decode cX10_isBoard 61 = .ok (.goto 4, 3) by decide +kernel) (by decide),
    mm_r_iconst X (show decode cX10_isBoard 64 = .ok (.iconst 0, 1) by decide +kernel) rfl,
    mm_r_zret X hret (show decode cX10_isBoard 65 = .ok (.ireturn, 1) by decide +kernel), trivial⟩
theorem sn_X10_isBoard {l : Launch} (hl : l.stackTraces = false) : mm_Snd l yX10_isBoard (.code yX10_isBoard cX10_isBoard 3 (some .boolean)) 1 20 f_X10_isBoard := mm_met hl (plainFor_of_name (by decide +kernel)) (ok_X10_isBoard hl)
/-! Linkcourt$BestPlay.forget()V -/
noncomputable def tb_X0_forget : List (Nat × mm_I) := [(0, mm_ldR 1 0), (1, mm_k 2 (.int 0)), (2, mm_pfZ 5 0 4), (5, mm_rtV)]
noncomputable def f_X0_forget : mm_F := mm_do (mm_pr tb_X0_forget) 1
theorem mn_X0_forget : mm_alln tb_X0_forget := ⟨mm_n_ldR _ _, mm_n_k _ _, mm_n_pfZ _ _ _, mm_n_rtV, trivial⟩
theorem mo_X0_forget : mm_Mo f_X0_forget := mm_do_mo (mm_alln_mem mn_X0_forget)
set_option maxRecDepth 10000 in
theorem ok_X0_forget {l : Launch} (hl : l.stackTraces = false) : mm_Ok l yX0_forget cX0_forget 1 none 1 20 tb_X0_forget := by
  refine ⟨mm_alln_mem mn_X0_forget, fun p e cells slots s m args below meth c D tc A S ad Tg X hret hname htab hth => mm_allr_mem ?_⟩
  exact ⟨mm_r_aload_n X (show decode cX0_forget 0 = .ok (.aload_n 0, 1) by decide +kernel) rfl,
    mm_r_iconst X (show decode cX0_forget 1 = .ok (.iconst 0, 1) by decide +kernel) rfl,
    mm_r_pfZ X (ci := 0) (p := 4) (show mm_kd 0 4 = 0 by decide +kernel) rfl rfl (Nat.le_of_ble_eq_true rfl) (show decode cX0_forget 2 = .ok (.putfield 29, 3) by decide +kernel) mw_266 rfl rfl,
    mm_r_vret X hret (show decode cX0_forget 5 = .ok (.return_, 1) by decide +kernel), trivial⟩
theorem sn_X0_forget {l : Launch} (hl : l.stackTraces = false) : mm_Snd l yX0_forget (.code yX0_forget cX0_forget 1 none) 1 20 f_X0_forget := mm_met hl (plainFor_of_name (by decide +kernel)) (ok_X0_forget hl)
/-! Linkcourt$Times.start(III)V -/
noncomputable def tb_X8_start : List (Nat × mm_I) := [(0, mm_ldR 1 0), (1, mm_gfR 4 8 0), (4, mm_ldI 5 1), (5, mm_clS 8 2 f_J7_fill_53178), (8, mm_ldR 9 0), (9, mm_gfR 12 8 1), (12, mm_ldI 13 2), (13, mm_clS 16 2 f_J7_fill_53178), (16, mm_ldR 17 0), (17, mm_gfR 20 8 2), (20, mm_k 21 (.int 0)), (21, mm_clS 24 2 f_J7_fill_53178), (24, mm_ldR 25 0), (25, mm_ldI 26 3), (26, mm_pfI 29 8 3), (29, mm_ldR 30 0), (30, mm_k 31 (.int 1)), (31, mm_pfZ 34 8 4), (34, mm_rtV)]
noncomputable def f_X8_start : mm_F := mm_do (mm_pr tb_X8_start) 4
theorem mn_X8_start : mm_alln tb_X8_start := ⟨mm_n_ldR _ _, mm_n_gfR _ _ _, mm_n_ldI _ _, mm_n_clS _ _ (mo_J7_fill_53178), mm_n_ldR _ _, mm_n_gfR _ _ _, mm_n_ldI _ _, mm_n_clS _ _ (mo_J7_fill_53178), mm_n_ldR _ _, mm_n_gfR _ _ _, mm_n_k _ _, mm_n_clS _ _ (mo_J7_fill_53178), mm_n_ldR _ _, mm_n_ldI _ _, mm_n_pfI _ _ _, mm_n_ldR _ _, mm_n_k _ _, mm_n_pfZ _ _ _, mm_n_rtV, trivial⟩
theorem mo_X8_start : mm_Mo f_X8_start := mm_do_mo (mm_alln_mem mn_X8_start)
set_option maxRecDepth 10000 in
theorem ok_X8_start {l : Launch} (hl : l.stackTraces = false) : mm_Ok l yX8_start cX8_start 4 none 2 43 tb_X8_start := by
  refine ⟨mm_alln_mem mn_X8_start, fun p e cells slots s m args below meth c D tc A S ad Tg X hret hname htab hth => mm_allr_mem ?_⟩
  exact ⟨mm_r_aload_n X (show decode cX8_start 0 = .ok (.aload_n 0, 1) by decide +kernel) rfl,
    mm_r_gfR X (ci := 8) (p := 0) (show mm_kd 8 0 = 2 by decide +kernel) rfl (Nat.le_of_ble_eq_true rfl) (show decode cX8_start 1 = .ok (.getfield 9, 3) by decide +kernel) mw_384 rfl,
    mm_r_iload_n X (show decode cX8_start 4 = .ok (.iload_n 1, 1) by decide +kernel) rfl,
    mm_r_clS X hth (na := 2) (sn_J7_fill_53178 hl) (show decode cX8_start 5 = .ok (.invokestatic 33, 3) by decide +kernel) mw_722 mw_720 mw_721 mw_61 hd_J7_fill_53178.2 ⟨(Nat.le_of_ble_eq_true rfl), (Nat.le_of_ble_eq_true rfl)⟩,
    mm_r_aload_n X (show decode cX8_start 8 = .ok (.aload_n 0, 1) by decide +kernel) rfl,
    mm_r_gfR X (ci := 8) (p := 1) (show mm_kd 8 1 = 2 by decide +kernel) rfl (Nat.le_of_ble_eq_true rfl) (show decode cX8_start 9 = .ok (.getfield 15, 3) by decide +kernel) mw_385 rfl,
    mm_r_iload_n X (show decode cX8_start 12 = .ok (.iload_n 2, 1) by decide +kernel) rfl,
    mm_r_clS X hth (na := 2) (sn_J7_fill_53178 hl) (show decode cX8_start 13 = .ok (.invokestatic 33, 3) by decide +kernel) mw_722 mw_720 mw_721 mw_61 hd_J7_fill_53178.2 ⟨(Nat.le_of_ble_eq_true rfl), (Nat.le_of_ble_eq_true rfl)⟩,
    mm_r_aload_n X (show decode cX8_start 16 = .ok (.aload_n 0, 1) by decide +kernel) rfl,
    mm_r_gfR X (ci := 8) (p := 2) (show mm_kd 8 2 = 2 by decide +kernel) rfl (Nat.le_of_ble_eq_true rfl) (show decode cX8_start 17 = .ok (.getfield 18, 3) by decide +kernel) mw_386 rfl,
    mm_r_iconst X (show decode cX8_start 20 = .ok (.iconst 0, 1) by decide +kernel) rfl,
    mm_r_clS X hth (na := 2) (sn_J7_fill_53178 hl) (show decode cX8_start 21 = .ok (.invokestatic 33, 3) by decide +kernel) mw_722 mw_720 mw_721 mw_61 hd_J7_fill_53178.2 ⟨(Nat.le_of_ble_eq_true rfl), (Nat.le_of_ble_eq_true rfl)⟩,
    mm_r_aload_n X (show decode cX8_start 24 = .ok (.aload_n 0, 1) by decide +kernel) rfl,
    mm_r_iload_n X (show decode cX8_start 25 = .ok (.iload_n 3, 1) by decide +kernel) rfl,
    mm_r_pfI X (ci := 8) (p := 3) (show mm_kd 8 3 = 0 by decide +kernel) rfl rfl (Nat.le_of_ble_eq_true rfl) (show decode cX8_start 26 = .ok (.putfield 39, 3) by decide +kernel) mw_387 rfl rfl,
    mm_r_aload_n X (show decode cX8_start 29 = .ok (.aload_n 0, 1) by decide +kernel) rfl,
    mm_r_iconst X (show decode cX8_start 30 = .ok (.iconst 1, 1) by decide +kernel) rfl,
    mm_r_pfZ X (ci := 8) (p := 4) (show mm_kd 8 4 = 0 by decide +kernel) rfl rfl (Nat.le_of_ble_eq_true rfl) (show decode cX8_start 31 = .ok (.putfield 29, 3) by decide +kernel) mw_388 rfl rfl,
    mm_r_vret X hret (show decode cX8_start 34 = .ok (.return_, 1) by decide +kernel), trivial⟩
theorem sn_X8_start {l : Launch} (hl : l.stackTraces = false) : mm_Snd l yX8_start (.code yX8_start cX8_start 4 none) 2 43 f_X8_start := mm_met hl (plainFor_of_name (by decide +kernel)) (ok_X8_start hl)
/-! Linkcourt$Times.takeAway()V -/
noncomputable def tb_X8_takeAway : List (Nat × mm_I) := [(0, mm_ldR 1 0), (1, mm_k 2 (.int 0)), (2, mm_k 3 (.int 0)), (3, mm_k 4 (.int 0)), (4, mm_clV 7 8 3 f_X8_start), (7, mm_ldR 8 0), (8, mm_k 9 (.int 0)), (9, mm_pfZ 12 8 4), (12, mm_ldR 13 0), (13, mm_k 14 (.int (-1))), (14, mm_pfI 17 8 5), (17, mm_rtV)]
noncomputable def f_X8_takeAway : mm_F := mm_do (mm_pr tb_X8_takeAway) 1
theorem mn_X8_takeAway : mm_alln tb_X8_takeAway := ⟨mm_n_ldR _ _, mm_n_k _ _, mm_n_k _ _, mm_n_k _ _, mm_n_clV _ _ _ (mo_X8_start), mm_n_ldR _ _, mm_n_k _ _, mm_n_pfZ _ _ _, mm_n_ldR _ _, mm_n_k _ _, mm_n_pfI _ _ _, mm_n_rtV, trivial⟩
theorem mo_X8_takeAway : mm_Mo f_X8_takeAway := mm_do_mo (mm_alln_mem mn_X8_takeAway)
set_option maxRecDepth 10000 in
theorem ok_X8_takeAway {l : Launch} (hl : l.stackTraces = false) : mm_Ok l yX8_takeAway cX8_takeAway 1 none 3 66 tb_X8_takeAway := by
  refine ⟨mm_alln_mem mn_X8_takeAway, fun p e cells slots s m args below meth c D tc A S ad Tg X hret hname htab hth => mm_allr_mem ?_⟩
  exact ⟨mm_r_aload_n X (show decode cX8_takeAway 0 = .ok (.aload_n 0, 1) by decide +kernel) rfl,
    mm_r_iconst X (show decode cX8_takeAway 1 = .ok (.iconst 0, 1) by decide +kernel) rfl,
    mm_r_iconst X (show decode cX8_takeAway 2 = .ok (.iconst 0, 1) by decide +kernel) rfl,
    mm_r_iconst X (show decode cX8_takeAway 3 = .ok (.iconst 0, 1) by decide +kernel) rfl,
    mm_r_clV X hth (ci := 8) (na := 3) (sn_X8_start hl) rfl (show decode cX8_takeAway 4 = .ok (.invokevirtual 25, 3) by decide +kernel) mw_719 mw_716 mw_717 mw_718 mw_54 hd_X8_start ⟨(Nat.le_of_ble_eq_true rfl), (Nat.le_of_ble_eq_true rfl)⟩,
    mm_r_aload_n X (show decode cX8_takeAway 7 = .ok (.aload_n 0, 1) by decide +kernel) rfl,
    mm_r_iconst X (show decode cX8_takeAway 8 = .ok (.iconst 0, 1) by decide +kernel) rfl,
    mm_r_pfZ X (ci := 8) (p := 4) (show mm_kd 8 4 = 0 by decide +kernel) rfl rfl (Nat.le_of_ble_eq_true rfl) (show decode cX8_takeAway 9 = .ok (.putfield 29, 3) by decide +kernel) mw_388 rfl rfl,
    mm_r_aload_n X (show decode cX8_takeAway 12 = .ok (.aload_n 0, 1) by decide +kernel) rfl,
    mm_r_iconst X (show decode cX8_takeAway 13 = .ok (.iconst (-1), 1) by decide +kernel) rfl,
    mm_r_pfI X (ci := 8) (p := 5) (show mm_kd 8 5 = 0 by decide +kernel) rfl rfl (Nat.le_of_ble_eq_true rfl) (show decode cX8_takeAway 14 = .ok (.putfield 21, 3) by decide +kernel) mw_390 rfl rfl,
    mm_r_vret X hret (show decode cX8_takeAway 17 = .ok (.return_, 1) by decide +kernel), trivial⟩
theorem sn_X8_takeAway {l : Launch} (hl : l.stackTraces = false) : mm_Snd l yX8_takeAway (.code yX8_takeAway cX8_takeAway 1 none) 3 66 f_X8_takeAway := mm_met hl (plainFor_of_name (by decide +kernel)) (ok_X8_takeAway hl)
/-! Linkcourt.game(III)I -/
noncomputable def tb_X10_game : List (Nat × mm_I) := [(0, mm_ldI 1 1), (1, mm_ldI 2 2), (2, mm_ldI 3 3), (3, mm_clS 6 3 f_X10_isBoard), (6, mm_ne1 19 9), (9, mm_thr 2), (19, mm_ldR 20 0), (20, mm_gfR 23 10 0), (23, mm_ldI 24 1), (24, mm_ldI 25 2), (25, mm_ldI 26 3), (26, mm_clV 29 1 3 f_X1_lay), (29, mm_ldR 30 0), (30, mm_gfR 33 10 1), (33, mm_clV 36 6 0 f_X6_begin), (36, mm_ldR 37 0), (37, mm_gfR 40 10 2), (40, mm_clV 43 0 0 f_X0_forget), (43, mm_ldR 44 0), (44, mm_gfR 47 10 7), (47, mm_clV 50 8 0 f_X8_takeAway), (50, mm_ldR 51 0), (51, mm_k 52 (.int 0)), (52, mm_pfZ 55 10 9), (55, mm_ldR 56 0), (56, mm_gfR 59 10 0), (59, mm_gfI 62 1 8), (62, mm_rtI)]
noncomputable def f_X10_game : mm_F := mm_do (mm_pr tb_X10_game) 4
theorem mn_X10_game : mm_alln tb_X10_game := ⟨mm_n_ldI _ _, mm_n_ldI _ _, mm_n_ldI _ _, mm_n_clS _ _ (mo_X10_isBoard), mm_n_ne1 _ _, mm_n_thr _, mm_n_ldR _ _, mm_n_gfR _ _ _, mm_n_ldI _ _, mm_n_ldI _ _, mm_n_ldI _ _, mm_n_clV _ _ _ (mo_X1_lay), mm_n_ldR _ _, mm_n_gfR _ _ _, mm_n_clV _ _ _ (mo_X6_begin), mm_n_ldR _ _, mm_n_gfR _ _ _, mm_n_clV _ _ _ (mo_X0_forget), mm_n_ldR _ _, mm_n_gfR _ _ _, mm_n_clV _ _ _ (mo_X8_takeAway), mm_n_ldR _ _, mm_n_k _ _, mm_n_pfZ _ _ _, mm_n_ldR _ _, mm_n_gfR _ _ _, mm_n_gfI _ _ _, mm_n_rtI, trivial⟩
theorem mo_X10_game : mm_Mo f_X10_game := mm_do_mo (mm_alln_mem mn_X10_game)
set_option maxRecDepth 10000 in
theorem ok_X10_game {l : Launch} (hl : l.stackTraces = false) : mm_Ok l yX10_game cX10_game 4 (some .int) 7 163 tb_X10_game := by
  refine ⟨mm_alln_mem mn_X10_game, fun p e cells slots s m args below meth c D tc A S ad Tg X hret hname htab hth => mm_allr_mem ?_⟩
  exact ⟨mm_r_iload_n X (show decode cX10_game 0 = .ok (.iload_n 1, 1) by decide +kernel) rfl,
    mm_r_iload_n X (show decode cX10_game 1 = .ok (.iload_n 2, 1) by decide +kernel) rfl,
    mm_r_iload_n X (show decode cX10_game 2 = .ok (.iload_n 3, 1) by decide +kernel) rfl,
    mm_r_clS X hth (na := 3) (sn_X10_isBoard hl) (show decode cX10_game 3 = .ok (.invokestatic 81, 3) by decide +kernel) mw_706 mw_704 mw_705 mw_44 hd_X10_isBoard.2 ⟨(Nat.le_of_ble_eq_true rfl), (Nat.le_of_ble_eq_true rfl)⟩,
    mm_r_ne1 X (show decode cX10_game 6 = .ok (.ifCond .ne 13, 3) by decide +kernel) (by decide),
    mm_r_thr X htab (E := 2) (ik := 85) (is := 87) (ic := 89) (text := "there is no such board") (by decide) rfl mm_aw2 mw_494 mw_59 (by decide +kernel) (show decode cX10_game 9 = .ok (.new 85, 3) by decide +kernel) (show decode cX10_game 12 = .ok (.dup, 1) by decide +kernel) (show decode cX10_game 13 = .ok (.ldc 87, 2) by decide +kernel) (show decode cX10_game 15 = .ok (.invokespecial 89, 3) by decide +kernel) (show decode cX10_game 18 = .ok (.athrow, 1) by decide +kernel) (Nat.le_of_ble_eq_true rfl) (Nat.le_of_ble_eq_true rfl),
    mm_r_aload_n X (show decode cX10_game 19 = .ok (.aload_n 0, 1) by decide +kernel) rfl,
    mm_r_gfR X (ci := 10) (p := 0) (show mm_kd 10 0 = 2 by decide +kernel) rfl (Nat.le_of_ble_eq_true rfl) (show decode cX10_game 20 = .ok (.getfield 24, 3) by decide +kernel) mw_428 rfl,
    mm_r_iload_n X (show decode cX10_game 23 = .ok (.iload_n 1, 1) by decide +kernel) rfl,
    mm_r_iload_n X (show decode cX10_game 24 = .ok (.iload_n 2, 1) by decide +kernel) rfl,
    mm_r_iload_n X (show decode cX10_game 25 = .ok (.iload_n 3, 1) by decide +kernel) rfl,
    mm_r_clV X hth (ci := 1) (na := 3) (sn_X1_lay hl) rfl (show decode cX10_game 26 = .ok (.invokevirtual 12, 3) by decide +kernel) mw_127 mw_124 mw_125 mw_126 mw_45 hd_X1_lay ⟨(Nat.le_of_ble_eq_true rfl), (Nat.le_of_ble_eq_true rfl)⟩,
    mm_r_aload_n X (show decode cX10_game 29 = .ok (.aload_n 0, 1) by decide +kernel) rfl,
    mm_r_gfR X (ci := 10) (p := 1) (show mm_kd 10 1 = 2 by decide +kernel) rfl (Nat.le_of_ble_eq_true rfl) (show decode cX10_game 30 = .ok (.getfield 28, 3) by decide +kernel) mw_429 rfl,
    mm_r_clV X hth (ci := 6) (na := 0) (sn_X6_begin hl) rfl (show decode cX10_game 33 = .ok (.invokevirtual 21, 3) by decide +kernel) mw_198 mw_195 mw_196 mw_197 mw_46 hd_X6_begin ⟨(Nat.le_of_ble_eq_true rfl), (Nat.le_of_ble_eq_true rfl)⟩,
    mm_r_aload_n X (show decode cX10_game 36 = .ok (.aload_n 0, 1) by decide +kernel) rfl,
    mm_r_gfR X (ci := 10) (p := 2) (show mm_kd 10 2 = 2 by decide +kernel) rfl (Nat.le_of_ble_eq_true rfl) (show decode cX10_game 37 = .ok (.getfield 35, 3) by decide +kernel) mw_430 rfl,
    mm_r_clV X hth (ci := 0) (na := 0) (sn_X0_forget hl) rfl (show decode cX10_game 40 = .ok (.invokevirtual 92, 3) by decide +kernel) mw_711 mw_708 mw_709 mw_710 mw_48 hd_X0_forget ⟨(Nat.le_of_ble_eq_true rfl), (Nat.le_of_ble_eq_true rfl)⟩,
    mm_r_aload_n X (show decode cX10_game 43 = .ok (.aload_n 0, 1) by decide +kernel) rfl,
    mm_r_gfR X (ci := 10) (p := 7) (show mm_kd 10 7 = 2 by decide +kernel) rfl (Nat.le_of_ble_eq_true rfl) (show decode cX10_game 44 = .ok (.getfield 70, 3) by decide +kernel) mw_435 rfl,
    mm_r_clV X hth (ci := 8) (na := 0) (sn_X8_takeAway hl) rfl (show decode cX10_game 47 = .ok (.invokevirtual 95, 3) by decide +kernel) mw_715 mw_712 mw_713 mw_714 mw_54 hd_X8_takeAway ⟨(Nat.le_of_ble_eq_true rfl), (Nat.le_of_ble_eq_true rfl)⟩,
    mm_r_aload_n X (show decode cX10_game 50 = .ok (.aload_n 0, 1) by decide +kernel) rfl,
    mm_r_iconst X (show decode cX10_game 51 = .ok (.iconst 0, 1) by decide +kernel) rfl,
    mm_r_pfZ X (ci := 10) (p := 9) (show mm_kd 10 9 = 0 by decide +kernel) rfl rfl (Nat.le_of_ble_eq_true rfl) (show decode cX10_game 52 = .ok (.putfield 98, 3) by decide +kernel) mw_437 rfl rfl,
    mm_r_aload_n X (show decode cX10_game 55 = .ok (.aload_n 0, 1) by decide +kernel) rfl,
    mm_r_gfR X (ci := 10) (p := 0) (show mm_kd 10 0 = 2 by decide +kernel) rfl (Nat.le_of_ble_eq_true rfl) (show decode cX10_game 56 = .ok (.getfield 24, 3) by decide +kernel) mw_428 rfl,
    mm_r_gfI X (ci := 1) (p := 8) (show mm_kd 1 8 = 0 by decide +kernel) rfl (Nat.le_of_ble_eq_true rfl) (show decode cX10_game 59 = .ok (.getfield 102, 3) by decide +kernel) mw_90 rfl,
    mm_r_iret X hret (show decode cX10_game 62 = .ok (.ireturn, 1) by decide +kernel), trivial⟩
theorem sn_X10_game {l : Launch} (hl : l.stackTraces = false) : mm_Snd l yX10_game (.code yX10_game cX10_game 4 (some .int)) 7 163 f_X10_game := mm_met hl (plainFor_of_name (by decide +kernel)) (ok_X10_game hl)
/-! Linkcourt$Board.hasCell(I)Z -/
noncomputable def tb_X1_hasCell : List (Nat × mm_I) := [(0, mm_ldI 1 1), (1, mm_lt1 22 4), (4, mm_ldI 5 1), (5, mm_ldR 6 0), (6, mm_gfI 9 1 8), (9, mm_ge2 22 12), (12, mm_ldI 13 1), (13, mm_k 15 (.int 36)), (15, mm_ge2 22 18), (18, mm_k 19 (.int 1)), (19, mm_go 23), (22, mm_k 23 (.int 0)), (23, mm_rtZ)]
noncomputable def f_X1_hasCell : mm_F := mm_do (mm_pr tb_X1_hasCell) 2
theorem mn_X1_hasCell : mm_alln tb_X1_hasCell := ⟨mm_n_ldI _ _, mm_n_lt1 _ _, mm_n_ldI _ _, mm_n_ldR _ _, mm_n_gfI _ _ _, mm_n_ge2 _ _, mm_n_ldI _ _, mm_n_k _ _, mm_n_ge2 _ _, mm_n_k _ _, mm_n_go _, mm_n_k _ _, mm_n_rtZ, trivial⟩
theorem mo_X1_hasCell : mm_Mo f_X1_hasCell := mm_do_mo (mm_alln_mem mn_X1_hasCell)
set_option maxRecDepth 10000 in
theorem ok_X1_hasCell {l : Launch} (hl : l.stackTraces = false) : mm_Ok l yX1_hasCell cX1_hasCell 2 (some .boolean) 1 20 tb_X1_hasCell := by
  refine ⟨mm_alln_mem mn_X1_hasCell, fun p e cells slots s m args below meth c D tc A S ad Tg X hret hname htab hth => mm_allr_mem ?_⟩
  exact ⟨mm_r_iload_n X (show decode cX1_hasCell 0 = .ok (.iload_n 1, 1) by decide +kernel) rfl,
    mm_r_lt1 X (show decode cX1_hasCell 1 = .ok (.ifCond .lt 21, 3) by decide +kernel) (by decide),
    mm_r_iload_n X (show decode cX1_hasCell 4 = .ok (.iload_n 1, 1) by decide +kernel) rfl,
    mm_r_aload_n X (show decode cX1_hasCell 5 = .ok (.aload_n 0, 1) by decide +kernel) rfl,
    mm_r_gfI X (ci := 1) (p := 8) (show mm_kd 1 8 = 0 by decide +kernel) rfl (Nat.le_of_ble_eq_true rfl) (show decode cX1_hasCell 6 = .ok (.getfield 44, 3) by decide +kernel) mw_89 rfl,
    mm_r_ge2 X (show decode cX1_hasCell 9 = .ok (.if_icmp .ge 13, 3) by decide +kernel) (by decide),
    mm_r_iload_n X (show decode cX1_hasCell 12 = .ok (.iload_n 1, 1) by decide +kernel) rfl,
    mm_r_bipush X (show decode cX1_hasCell 13 = .ok (.bipush 36, 2) by decide +kernel) rfl,
    mm_r_ge2 X (show decode cX1_hasCell 15 = .ok (.if_icmp .ge 7, 3) by decide +kernel) (by decide),
    mm_r_iconst X (show decode cX1_hasCell 18 = .ok (.iconst 1, 1) by decide +kernel) rfl,
    mm_r_goto X (show decode cX1_hasCell 19 = .ok (.goto 4, 3) by decide +kernel) (by decide),
    mm_r_iconst X (show decode cX1_hasCell 22 = .ok (.iconst 0, 1) by decide +kernel) rfl,
    mm_r_zret X hret (show decode cX1_hasCell 23 = .ok (.ireturn, 1) by decide +kernel), trivial⟩
theorem sn_X1_hasCell {l : Launch} (hl : l.stackTraces = false) : mm_Snd l yX1_hasCell (.code yX1_hasCell cX1_hasCell 2 (some .boolean)) 1 20 f_X1_hasCell := mm_met hl (plainFor_of_name (by decide +kernel)) (ok_X1_hasCell hl)
/-! Linkcourt$Play.empty()J -/
noncomputable def tb_X6_empty : List (Nat × mm_I) := [(0, mm_ldR 1 0), (1, mm_gfR 4 6 0), (4, mm_gfJ 7 1 10), (7, mm_ldR 8 0), (8, mm_gfJ 11 6 4), (11, mm_ldR 12 0), (12, mm_gfJ 15 6 5), (15, mm_l2 16 (fun a b => a ||| b)), (16, mm_k 19 (.long (-1))), (19, mm_l2 20 (fun a b => a ^^^ b)), (20, mm_l2 21 (fun a b => a &&& b)), (21, mm_rtJ)]
noncomputable def f_X6_empty : mm_F := mm_do (mm_pr tb_X6_empty) 1
theorem mn_X6_empty : mm_alln tb_X6_empty := ⟨mm_n_ldR _ _, mm_n_gfR _ _ _, mm_n_gfJ _ _ _, mm_n_ldR _ _, mm_n_gfJ _ _ _, mm_n_ldR _ _, mm_n_gfJ _ _ _, mm_n_l2 _ _, mm_n_k _ _, mm_n_l2 _ _, mm_n_l2 _ _, mm_n_rtJ, trivial⟩
theorem mo_X6_empty : mm_Mo f_X6_empty := mm_do_mo (mm_alln_mem mn_X6_empty)
set_option maxRecDepth 10000 in
theorem ok_X6_empty {l : Launch} (hl : l.stackTraces = false) : mm_Ok l yX6_empty cX6_empty 1 (some .long) 1 20 tb_X6_empty := by
  refine ⟨mm_alln_mem mn_X6_empty, fun p e cells slots s m args below meth c D tc A S ad Tg X hret hname htab hth => mm_allr_mem ?_⟩
  exact ⟨mm_r_aload_n X (show decode cX6_empty 0 = .ok (.aload_n 0, 1) by decide +kernel) rfl,
    mm_r_gfR X (ci := 6) (p := 0) (show mm_kd 6 0 = 2 by decide +kernel) rfl (Nat.le_of_ble_eq_true rfl) (show decode cX6_empty 1 = .ok (.getfield 19, 3) by decide +kernel) mw_168 rfl,
    mm_r_gfJ X (ci := 1) (p := 10) (show mm_kd 1 10 = 1 by decide +kernel) rfl (Nat.le_of_ble_eq_true rfl) (show decode cX6_empty 4 = .ok (.getfield 61, 3) by decide +kernel) mw_98 rfl,
    mm_r_aload_n X (show decode cX6_empty 7 = .ok (.aload_n 0, 1) by decide +kernel) rfl,
    mm_r_gfJ X (ci := 6) (p := 4) (show mm_kd 6 4 = 1 by decide +kernel) rfl (Nat.le_of_ble_eq_true rfl) (show decode cX6_empty 8 = .ok (.getfield 47, 3) by decide +kernel) mw_174 rfl,
    mm_r_aload_n X (show decode cX6_empty 11 = .ok (.aload_n 0, 1) by decide +kernel) rfl,
    mm_r_gfJ X (ci := 6) (p := 5) (show mm_kd 6 5 = 1 by decide +kernel) rfl (Nat.le_of_ble_eq_true rfl) (show decode cX6_empty 12 = .ok (.getfield 51, 3) by decide +kernel) mw_176 rfl,
    mm_r_lor X (show decode cX6_empty 15 = .ok (.lor, 1) by decide +kernel),
    mm_r_ldc2 X (show decode cX6_empty 16 = .ok (.ldc2_w 64, 3) by decide +kernel) mw_484,
    mm_r_lxor X (show decode cX6_empty 19 = .ok (.lxor, 1) by decide +kernel),
    mm_r_land X (show decode cX6_empty 20 = .ok (.land, 1) by decide +kernel),
    mm_r_lret X hret (show decode cX6_empty 21 = .ok (.lreturn, 1) by decide +kernel), trivial⟩
theorem sn_X6_empty {l : Launch} (hl : l.stackTraces = false) : mm_Snd l yX6_empty (.code yX6_empty cX6_empty 1 (some .long)) 1 20 f_X6_empty := mm_met hl (plainFor_of_name (by decide +kernel)) (ok_X6_empty hl)
/-! Linkcourt.has(JI)Z -/
noncomputable def tb_X10_has : List (Nat × mm_I) := [(0, mm_ldJ 1 0), (1, mm_ldI 2 2), (2, mm_ls 3 (fun a b => a >>> (b.toInt64 &&& 63))), (3, mm_k 4 (.long 1)), (4, mm_l2 5 (fun a b => a &&& b)), (5, mm_k 6 (.long 0)), (6, mm_cmp 7), (7, mm_eq1 14 10), (10, mm_k 11 (.int 1)), (11, mm_go 15), (14, mm_k 15 (.int 0)), (15, mm_rtZ)]
noncomputable def f_X10_has : mm_F := mm_do (mm_pr tb_X10_has) 3
theorem mn_X10_has : mm_alln tb_X10_has := ⟨mm_n_ldJ _ _, mm_n_ldI _ _, mm_n_ls _ _, mm_n_k _ _, mm_n_l2 _ _, mm_n_k _ _, mm_n_cmp _, mm_n_eq1 _ _, mm_n_k _ _, mm_n_go _, mm_n_k _ _, mm_n_rtZ, trivial⟩
theorem mo_X10_has : mm_Mo f_X10_has := mm_do_mo (mm_alln_mem mn_X10_has)
set_option maxRecDepth 10000 in
theorem ok_X10_has {l : Launch} (hl : l.stackTraces = false) : mm_Ok l yX10_has cX10_has 3 (some .boolean) 1 20 tb_X10_has := by
  refine ⟨mm_alln_mem mn_X10_has, fun p e cells slots s m args below meth c D tc A S ad Tg X hret hname htab hth => mm_allr_mem ?_⟩
  exact ⟨mm_r_lload_n X (show decode cX10_has 0 = .ok (.lload_n 0, 1) by decide +kernel) rfl,
    mm_r_iload_n X (show decode cX10_has 1 = .ok (.iload_n 2, 1) by decide +kernel) rfl,
    mm_r_lshr X (show decode cX10_has 2 = .ok (.lshr, 1) by decide +kernel),
    mm_r_lconst X (show decode cX10_has 3 = .ok (.lconst 1, 1) by decide +kernel) rfl,
    mm_r_land X (show decode cX10_has 4 = .ok (.land, 1) by decide +kernel),
    mm_r_lconst X (show decode cX10_has 5 = .ok (.lconst 0, 1) by decide +kernel) rfl,
    mm_r_lcmp X (show decode cX10_has 6 = .ok (.lcmp, 1) by decide +kernel),
    mm_r_eq1 X (show decode cX10_has 7 = .ok (.ifCond .eq 7, 3) by decide +kernel) (by decide),
    mm_r_iconst X (show decode cX10_has 10 = .ok (.iconst 1, 1) by decide +kernel) rfl,
    mm_r_goto X (show decode cX10_has 11 = .ok (.goto 4, 3) by decide +kernel) (by decide),
    mm_r_iconst X (show decode cX10_has 14 = .ok (.iconst 0, 1) by decide +kernel) rfl,
    mm_r_zret X hret (show decode cX10_has 15 = .ok (.ireturn, 1) by decide +kernel), trivial⟩
theorem sn_X10_has {l : Launch} (hl : l.stackTraces = false) : mm_Snd l yX10_has (.code yX10_has cX10_has 3 (some .boolean)) 1 20 f_X10_has := mm_met hl (plainFor_of_name (by decide +kernel)) (ok_X10_has hl)
/-! Linkcourt.winner()I -/
noncomputable def tb_X10_winner : List (Nat × mm_I) := [(0, mm_ldR 1 0), (1, mm_gfR 4 10 7), (4, mm_gfI 7 8 5), (7, mm_k 8 (.int (-1))), (8, mm_eq2 23 11), (11, mm_k 12 (.int 1)), (12, mm_ldR 13 0), (13, mm_gfR 16 10 7), (16, mm_gfI 19 8 5), (19, mm_i2 20 (fun a b => a - b)), (20, mm_go 30), (23, mm_ldR 24 0), (24, mm_gfR 27 10 1), (27, mm_gfI 30 6 6), (30, mm_rtI)]
noncomputable def f_X10_winner : mm_F := mm_do (mm_pr tb_X10_winner) 1
theorem mn_X10_winner : mm_alln tb_X10_winner := ⟨mm_n_ldR _ _, mm_n_gfR _ _ _, mm_n_gfI _ _ _, mm_n_k _ _, mm_n_eq2 _ _, mm_n_k _ _, mm_n_ldR _ _, mm_n_gfR _ _ _, mm_n_gfI _ _ _, mm_n_i2 _ _, mm_n_go _, mm_n_ldR _ _, mm_n_gfR _ _ _, mm_n_gfI _ _ _, mm_n_rtI, trivial⟩
theorem mo_X10_winner : mm_Mo f_X10_winner := mm_do_mo (mm_alln_mem mn_X10_winner)
set_option maxRecDepth 10000 in
theorem ok_X10_winner {l : Launch} (hl : l.stackTraces = false) : mm_Ok l yX10_winner cX10_winner 1 (some .int) 1 20 tb_X10_winner := by
  refine ⟨mm_alln_mem mn_X10_winner, fun p e cells slots s m args below meth c D tc A S ad Tg X hret hname htab hth => mm_allr_mem ?_⟩
  exact ⟨mm_r_aload_n X (show decode cX10_winner 0 = .ok (.aload_n 0, 1) by decide +kernel) rfl,
    mm_r_gfR X (ci := 10) (p := 7) (show mm_kd 10 7 = 2 by decide +kernel) rfl (Nat.le_of_ble_eq_true rfl) (show decode cX10_winner 1 = .ok (.getfield 70, 3) by decide +kernel) mw_435 rfl,
    mm_r_gfI X (ci := 8) (p := 5) (show mm_kd 8 5 = 0 by decide +kernel) rfl (Nat.le_of_ble_eq_true rfl) (show decode cX10_winner 4 = .ok (.getfield 152, 3) by decide +kernel) mw_391 rfl,
    mm_r_iconst X (show decode cX10_winner 7 = .ok (.iconst (-1), 1) by decide +kernel) rfl,
    mm_r_eq2 X (show decode cX10_winner 8 = .ok (.if_icmp .eq 15, 3) by decide +kernel) (by decide),
    mm_r_iconst X (show decode cX10_winner 11 = .ok (.iconst 1, 1) by decide +kernel) rfl,
    mm_r_aload_n X (show decode cX10_winner 12 = .ok (.aload_n 0, 1) by decide +kernel) rfl,
    mm_r_gfR X (ci := 10) (p := 7) (show mm_kd 10 7 = 2 by decide +kernel) rfl (Nat.le_of_ble_eq_true rfl) (show decode cX10_winner 13 = .ok (.getfield 70, 3) by decide +kernel) mw_435 rfl,
    mm_r_gfI X (ci := 8) (p := 5) (show mm_kd 8 5 = 0 by decide +kernel) rfl (Nat.le_of_ble_eq_true rfl) (show decode cX10_winner 16 = .ok (.getfield 152, 3) by decide +kernel) mw_391 rfl,
    mm_r_isub X (show decode cX10_winner 19 = .ok (.isub, 1) by decide +kernel),
    mm_r_goto X (show decode cX10_winner 20 = .ok (.goto 10, 3) by decide +kernel) (by decide),
    mm_r_aload_n X (show decode cX10_winner 23 = .ok (.aload_n 0, 1) by decide +kernel) rfl,
    mm_r_gfR X (ci := 10) (p := 1) (show mm_kd 10 1 = 2 by decide +kernel) rfl (Nat.le_of_ble_eq_true rfl) (show decode cX10_winner 24 = .ok (.getfield 28, 3) by decide +kernel) mw_429 rfl,
    mm_r_gfI X (ci := 6) (p := 6) (show mm_kd 6 6 = 0 by decide +kernel) rfl (Nat.le_of_ble_eq_true rfl) (show decode cX10_winner 27 = .ok (.getfield 166, 3) by decide +kernel) mw_179 rfl,
    mm_r_iret X hret (show decode cX10_winner 30 = .ok (.ireturn, 1) by decide +kernel), trivial⟩
theorem sn_X10_winner {l : Launch} (hl : l.stackTraces = false) : mm_Snd l yX10_winner (.code yX10_winner cX10_winner 1 (some .int)) 1 20 f_X10_winner := mm_met hl (plainFor_of_name (by decide +kernel)) (ok_X10_winner hl)
/-! Linkcourt$Play.mover()I -/
noncomputable def tb_X6_mover : List (Nat × mm_I) := [(0, mm_ldR 1 0), (1, mm_gfI 4 6 2), (4, mm_k 5 (.int 1)), (5, mm_i2 6 (fun a b => a &&& b)), (6, mm_rtI)]
noncomputable def f_X6_mover : mm_F := mm_do (mm_pr tb_X6_mover) 1
theorem mn_X6_mover : mm_alln tb_X6_mover := ⟨mm_n_ldR _ _, mm_n_gfI _ _ _, mm_n_k _ _, mm_n_i2 _ _, mm_n_rtI, trivial⟩
theorem mo_X6_mover : mm_Mo f_X6_mover := mm_do_mo (mm_alln_mem mn_X6_mover)
set_option maxRecDepth 10000 in
theorem ok_X6_mover {l : Launch} (hl : l.stackTraces = false) : mm_Ok l yX6_mover cX6_mover 1 (some .int) 1 20 tb_X6_mover := by
  refine ⟨mm_alln_mem mn_X6_mover, fun p e cells slots s m args below meth c D tc A S ad Tg X hret hname htab hth => mm_allr_mem ?_⟩
  exact ⟨mm_r_aload_n X (show decode cX6_mover 0 = .ok (.aload_n 0, 1) by decide +kernel) rfl,
    mm_r_gfI X (ci := 6) (p := 2) (show mm_kd 6 2 = 0 by decide +kernel) rfl (Nat.le_of_ble_eq_true rfl) (show decode cX6_mover 1 = .ok (.getfield 23, 3) by decide +kernel) mw_170 rfl,
    mm_r_iconst X (show decode cX6_mover 4 = .ok (.iconst 1, 1) by decide +kernel) rfl,
    mm_r_iand X (show decode cX6_mover 5 = .ok (.iand, 1) by decide +kernel),
    mm_r_iret X hret (show decode cX6_mover 6 = .ok (.ireturn, 1) by decide +kernel), trivial⟩
theorem sn_X6_mover {l : Launch} (hl : l.stackTraces = false) : mm_Snd l yX6_mover (.code yX6_mover cX6_mover 1 (some .int)) 1 20 f_X6_mover := mm_met hl (plainFor_of_name (by decide +kernel)) (ok_X6_mover hl)
/-! Linkcourt.isPlayer(I)Z -/
noncomputable def tb_X10_isPlayer : List (Nat × mm_I) := [(0, mm_ldI 1 0), (1, mm_eq1 9 4), (4, mm_ldI 5 0), (5, mm_k 6 (.int 1)), (6, mm_ne2 13 9), (9, mm_k 10 (.int 1)), (10, mm_go 14), (13, mm_k 14 (.int 0)), (14, mm_rtZ)]
noncomputable def f_X10_isPlayer : mm_F := mm_do (mm_pr tb_X10_isPlayer) 1
theorem mn_X10_isPlayer : mm_alln tb_X10_isPlayer := ⟨mm_n_ldI _ _, mm_n_eq1 _ _, mm_n_ldI _ _, mm_n_k _ _, mm_n_ne2 _ _, mm_n_k _ _, mm_n_go _, mm_n_k _ _, mm_n_rtZ, trivial⟩
theorem mo_X10_isPlayer : mm_Mo f_X10_isPlayer := mm_do_mo (mm_alln_mem mn_X10_isPlayer)
set_option maxRecDepth 10000 in
theorem ok_X10_isPlayer {l : Launch} (hl : l.stackTraces = false) : mm_Ok l yX10_isPlayer cX10_isPlayer 1 (some .boolean) 1 20 tb_X10_isPlayer := by
  refine ⟨mm_alln_mem mn_X10_isPlayer, fun p e cells slots s m args below meth c D tc A S ad Tg X hret hname htab hth => mm_allr_mem ?_⟩
  exact ⟨mm_r_iload_n X (show decode cX10_isPlayer 0 = .ok (.iload_n 0, 1) by decide +kernel) rfl,
    mm_r_eq1 X (show decode cX10_isPlayer 1 = .ok (.ifCond .eq 8, 3) by decide +kernel) (by decide),
    mm_r_iload_n X (show decode cX10_isPlayer 4 = .ok (.iload_n 0, 1) by decide +kernel) rfl,
    mm_r_iconst X (show decode cX10_isPlayer 5 = .ok (.iconst 1, 1) by decide +kernel) rfl,
    mm_r_ne2 X (show decode cX10_isPlayer 6 = .ok (.if_icmp .ne 7, 3) by decide +kernel) (by decide),
    mm_r_iconst X (show decode cX10_isPlayer 9 = .ok (.iconst 1, 1) by decide +kernel) rfl,
    mm_r_goto X (show decode cX10_isPlayer 10 = .ok (.goto 4, 3) by decide +kernel) (by decide),
    mm_r_iconst X (show decode cX10_isPlayer 13 = .ok (.iconst 0, 1) by decide +kernel) rfl,
    mm_r_zret X hret (show decode cX10_isPlayer 14 = .ok (.ireturn, 1) by decide +kernel), trivial⟩
theorem sn_X10_isPlayer {l : Launch} (hl : l.stackTraces = false) : mm_Snd l yX10_isPlayer (.code yX10_isPlayer cX10_isPlayer 1 (some .boolean)) 1 20 f_X10_isPlayer := mm_met hl (plainFor_of_name (by decide +kernel)) (ok_X10_isPlayer hl)
/-! Linkcourt$Times.giveBack(I)V -/
noncomputable def tb_X8_giveBack : List (Nat × mm_I) := [(0, mm_ldI 1 1), (1, mm_clS 4 1 f_X10_isPlayer), (4, mm_eq1 14 7), (7, mm_ldR 8 0), (8, mm_gfR 11 8 2), (11, mm_ldI 12 1), (12, mm_k 13 (.int 0)), (13, mm_ast 14 0 (fun v => v)), (14, mm_rtV)]
noncomputable def f_X8_giveBack : mm_F := mm_do (mm_pr tb_X8_giveBack) 2
theorem mn_X8_giveBack : mm_alln tb_X8_giveBack := ⟨mm_n_ldI _ _, mm_n_clS _ _ (mo_X10_isPlayer), mm_n_eq1 _ _, mm_n_ldR _ _, mm_n_gfR _ _ _, mm_n_ldI _ _, mm_n_k _ _, mm_n_ast _ _ _, mm_n_rtV, trivial⟩
theorem mo_X8_giveBack : mm_Mo f_X8_giveBack := mm_do_mo (mm_alln_mem mn_X8_giveBack)
set_option maxRecDepth 10000 in
theorem ok_X8_giveBack {l : Launch} (hl : l.stackTraces = false) : mm_Ok l yX8_giveBack cX8_giveBack 2 none 2 40 tb_X8_giveBack := by
  refine ⟨mm_alln_mem mn_X8_giveBack, fun p e cells slots s m args below meth c D tc A S ad Tg X hret hname htab hth => mm_allr_mem ?_⟩
  exact ⟨mm_r_iload_n X (show decode cX8_giveBack 0 = .ok (.iload_n 1, 1) by decide +kernel) rfl,
    mm_r_clSN X hth (na := 1) (sn_X10_isPlayer hl) (show decode cX8_giveBack 1 = .ok (.invokestatic 42, 3) by decide +kernel) mw_621 (show ("Linkcourt$Times", 42, yX10_isPlayer) ∈ mm_nest by decide +kernel) mw_620 mw_44 hd_X10_isPlayer.2 ⟨(Nat.le_of_ble_eq_true rfl), (Nat.le_of_ble_eq_true rfl)⟩,
    mm_r_eq1 X (show decode cX8_giveBack 4 = .ok (.ifCond .eq 10, 3) by decide +kernel) (by decide),
    mm_r_aload_n X (show decode cX8_giveBack 7 = .ok (.aload_n 0, 1) by decide +kernel) rfl,
    mm_r_gfR X (ci := 8) (p := 2) (show mm_kd 8 2 = 2 by decide +kernel) rfl (Nat.le_of_ble_eq_true rfl) (show decode cX8_giveBack 8 = .ok (.getfield 18, 3) by decide +kernel) mw_386 rfl,
    mm_r_iload_n X (show decode cX8_giveBack 11 = .ok (.iload_n 1, 1) by decide +kernel) rfl,
    mm_r_iconst X (show decode cX8_giveBack 12 = .ok (.iconst 0, 1) by decide +kernel) rfl,
    mm_r_iast X (show decode cX8_giveBack 13 = .ok (.iastore, 1) by decide +kernel),
    mm_r_vret X hret (show decode cX8_giveBack 14 = .ok (.return_, 1) by decide +kernel), trivial⟩
theorem sn_X8_giveBack {l : Launch} (hl : l.stackTraces = false) : mm_Snd l yX8_giveBack (.code yX8_giveBack cX8_giveBack 2 none) 2 40 f_X8_giveBack := mm_met hl (plainFor_of_name (by decide +kernel)) (ok_X8_giveBack hl)
/-! Linkcourt$Play.put(I)V -/
noncomputable def tb_X6_put : List (Nat × mm_I) := [(0, mm_ldR 1 0), (1, mm_gfI 4 6 2), (4, mm_lt1 39 7), (7, mm_ldR 8 0), (8, mm_gfI 11 6 2), (11, mm_ldR 12 0), (12, mm_gfR 15 6 1), (15, mm_aln 16 0), (16, mm_ge2 39 19), (19, mm_ldR 20 0), (20, mm_gfR 23 6 1), (23, mm_ldR 24 0), (24, mm_gfI 27 6 2), (27, mm_ldI 28 1), (28, mm_ast 29 0 (fun v => v)), (29, mm_ldR 30 0), (30, mm_dup 31), (31, mm_gfI 34 6 2), (34, mm_k 35 (.int 1)), (35, mm_i2 36 (fun a b => a + b)), (36, mm_pfI 39 6 2), (39, mm_ldR 40 0), (40, mm_clV 43 6 0 f_X6_settle), (43, mm_rtV)]
noncomputable def f_X6_put : mm_F := mm_do (mm_pr tb_X6_put) 2
theorem mn_X6_put : mm_alln tb_X6_put := ⟨mm_n_ldR _ _, mm_n_gfI _ _ _, mm_n_lt1 _ _, mm_n_ldR _ _, mm_n_gfI _ _ _, mm_n_ldR _ _, mm_n_gfR _ _ _, mm_n_aln _ _, mm_n_ge2 _ _, mm_n_ldR _ _, mm_n_gfR _ _ _, mm_n_ldR _ _, mm_n_gfI _ _ _, mm_n_ldI _ _, mm_n_ast _ _ _, mm_n_ldR _ _, mm_n_dup _, mm_n_gfI _ _ _, mm_n_k _ _, mm_n_i2 _ _, mm_n_pfI _ _ _, mm_n_ldR _ _, mm_n_clV _ _ _ (mo_X6_settle), mm_n_rtV, trivial⟩
theorem mo_X6_put : mm_Mo f_X6_put := mm_do_mo (mm_alln_mem mn_X6_put)
set_option maxRecDepth 10000 in
theorem ok_X6_put {l : Launch} (hl : l.stackTraces = false) : mm_Ok l yX6_put cX6_put 2 none 6 143 tb_X6_put := by
  refine ⟨mm_alln_mem mn_X6_put, fun p e cells slots s m args below meth c D tc A S ad Tg X hret hname htab hth => mm_allr_mem ?_⟩
  exact ⟨mm_r_aload_n X (show decode cX6_put 0 = .ok (.aload_n 0, 1) by decide +kernel) rfl,
    mm_r_gfI X (ci := 6) (p := 2) (show mm_kd 6 2 = 0 by decide +kernel) rfl (Nat.le_of_ble_eq_true rfl) (show decode cX6_put 1 = .ok (.getfield 23, 3) by decide +kernel) mw_170 rfl,
    mm_r_lt1 X (show decode cX6_put 4 = .ok (.ifCond .lt 35, 3) by decide +kernel) (by decide),
    mm_r_aload_n X (show decode cX6_put 7 = .ok (.aload_n 0, 1) by decide +kernel) rfl,
    mm_r_gfI X (ci := 6) (p := 2) (show mm_kd 6 2 = 0 by decide +kernel) rfl (Nat.le_of_ble_eq_true rfl) (show decode cX6_put 8 = .ok (.getfield 23, 3) by decide +kernel) mw_170 rfl,
    mm_r_aload_n X (show decode cX6_put 11 = .ok (.aload_n 0, 1) by decide +kernel) rfl,
    mm_r_gfR X (ci := 6) (p := 1) (show mm_kd 6 1 = 2 by decide +kernel) rfl (Nat.le_of_ble_eq_true rfl) (show decode cX6_put 12 = .ok (.getfield 9, 3) by decide +kernel) mw_169 rfl,
    mm_r_aln X (t := 0) (Nat.le_of_ble_eq_true rfl) (show decode cX6_put 15 = .ok (.arraylength, 1) by decide +kernel),
    mm_r_ge2 X (show decode cX6_put 16 = .ok (.if_icmp .ge 23, 3) by decide +kernel) (by decide),
    mm_r_aload_n X (show decode cX6_put 19 = .ok (.aload_n 0, 1) by decide +kernel) rfl,
    mm_r_gfR X (ci := 6) (p := 1) (show mm_kd 6 1 = 2 by decide +kernel) rfl (Nat.le_of_ble_eq_true rfl) (show decode cX6_put 20 = .ok (.getfield 9, 3) by decide +kernel) mw_169 rfl,
    mm_r_aload_n X (show decode cX6_put 23 = .ok (.aload_n 0, 1) by decide +kernel) rfl,
    mm_r_gfI X (ci := 6) (p := 2) (show mm_kd 6 2 = 0 by decide +kernel) rfl (Nat.le_of_ble_eq_true rfl) (show decode cX6_put 24 = .ok (.getfield 23, 3) by decide +kernel) mw_170 rfl,
    mm_r_iload_n X (show decode cX6_put 27 = .ok (.iload_n 1, 1) by decide +kernel) rfl,
    mm_r_iast X (show decode cX6_put 28 = .ok (.iastore, 1) by decide +kernel),
    mm_r_aload_n X (show decode cX6_put 29 = .ok (.aload_n 0, 1) by decide +kernel) rfl,
    mm_r_dup X (show decode cX6_put 30 = .ok (.dup, 1) by decide +kernel),
    mm_r_gfI X (ci := 6) (p := 2) (show mm_kd 6 2 = 0 by decide +kernel) rfl (Nat.le_of_ble_eq_true rfl) (show decode cX6_put 31 = .ok (.getfield 23, 3) by decide +kernel) mw_170 rfl,
    mm_r_iconst X (show decode cX6_put 34 = .ok (.iconst 1, 1) by decide +kernel) rfl,
    mm_r_iadd X (show decode cX6_put 35 = .ok (.iadd, 1) by decide +kernel),
    mm_r_pfI X (ci := 6) (p := 2) (show mm_kd 6 2 = 0 by decide +kernel) rfl rfl (Nat.le_of_ble_eq_true rfl) (show decode cX6_put 36 = .ok (.putfield 23, 3) by decide +kernel) mw_170 rfl rfl,
    mm_r_aload_n X (show decode cX6_put 39 = .ok (.aload_n 0, 1) by decide +kernel) rfl,
    mm_r_clV X hth (ci := 6) (na := 0) (sn_X6_settle hl) rfl (show decode cX6_put 40 = .ok (.invokevirtual 30, 3) by decide +kernel) mw_202 mw_199 mw_201 mw_5 mw_46 hd_X6_settle ⟨(Nat.le_of_ble_eq_true rfl), (Nat.le_of_ble_eq_true rfl)⟩,
    mm_r_vret X hret (show decode cX6_put 43 = .ok (.return_, 1) by decide +kernel), trivial⟩
theorem sn_X6_put {l : Launch} (hl : l.stackTraces = false) : mm_Snd l yX6_put (.code yX6_put cX6_put 2 none) 6 143 f_X6_put := mm_met hl (plainFor_of_name (by decide +kernel)) (ok_X6_put hl)
/-! Linkcourt.move(I)I -/
noncomputable def tb_X10_move : List (Nat × mm_I) := [(0, mm_ldR 1 0), (1, mm_gfR 4 10 0), (4, mm_ldI 5 1), (5, mm_clV 8 1 1 f_X1_hasCell), (8, mm_ne1 21 11), (11, mm_thr 1), (21, mm_ldR 22 0), (22, mm_gfR 25 10 1), (25, mm_clV 28 6 0 f_X6_empty), (28, mm_ldI 29 1), (29, mm_clS 32 2 f_X10_has), (32, mm_ne1 45 35), (35, mm_thr 2), (45, mm_ldR 46 0), (46, mm_clV 49 10 0 f_X10_winner), (49, mm_k 50 (.int (-1))), (50, mm_eq2 63 53), (53, mm_thr 3), (63, mm_ldR 64 0), (64, mm_gfR 67 10 7), (67, mm_ldR 68 0), (68, mm_gfR 71 10 1), (71, mm_clV 74 6 0 f_X6_mover), (74, mm_clV 77 8 1 f_X8_giveBack), (77, mm_ldR 78 0), (78, mm_gfR 81 10 1), (81, mm_ldI 82 1), (82, mm_clV 85 6 1 f_X6_put), (85, mm_ldR 86 0), (86, mm_clV 89 10 0 f_X10_winner), (89, mm_rtI)]
noncomputable def f_X10_move : mm_F := mm_do (mm_pr tb_X10_move) 2
theorem mn_X10_move : mm_alln tb_X10_move := ⟨mm_n_ldR _ _, mm_n_gfR _ _ _, mm_n_ldI _ _, mm_n_clV _ _ _ (mo_X1_hasCell), mm_n_ne1 _ _, mm_n_thr _, mm_n_ldR _ _, mm_n_gfR _ _ _, mm_n_clV _ _ _ (mo_X6_empty), mm_n_ldI _ _, mm_n_clS _ _ (mo_X10_has), mm_n_ne1 _ _, mm_n_thr _, mm_n_ldR _ _, mm_n_clV _ _ _ (mo_X10_winner), mm_n_k _ _, mm_n_eq2 _ _, mm_n_thr _, mm_n_ldR _ _, mm_n_gfR _ _ _, mm_n_ldR _ _, mm_n_gfR _ _ _, mm_n_clV _ _ _ (mo_X6_mover), mm_n_clV _ _ _ (mo_X8_giveBack), mm_n_ldR _ _, mm_n_gfR _ _ _, mm_n_ldI _ _, mm_n_clV _ _ _ (mo_X6_put), mm_n_ldR _ _, mm_n_clV _ _ _ (mo_X10_winner), mm_n_rtI, trivial⟩
theorem mo_X10_move : mm_Mo f_X10_move := mm_do_mo (mm_alln_mem mn_X10_move)
set_option maxRecDepth 10000 in
theorem ok_X10_move {l : Launch} (hl : l.stackTraces = false) : mm_Ok l yX10_move cX10_move 2 (some .int) 7 164 tb_X10_move := by
  refine ⟨mm_alln_mem mn_X10_move, fun p e cells slots s m args below meth c D tc A S ad Tg X hret hname htab hth => mm_allr_mem ?_⟩
  exact ⟨mm_r_aload_n X (show decode cX10_move 0 = .ok (.aload_n 0, 1) by decide +kernel) rfl,
    mm_r_gfR X (ci := 10) (p := 0) (show mm_kd 10 0 = 2 by decide +kernel) rfl (Nat.le_of_ble_eq_true rfl) (show decode cX10_move 1 = .ok (.getfield 24, 3) by decide +kernel) mw_428 rfl,
    mm_r_iload_n X (show decode cX10_move 4 = .ok (.iload_n 1, 1) by decide +kernel) rfl,
    mm_r_clV X hth (ci := 1) (na := 1) (sn_X1_hasCell hl) rfl (show decode cX10_move 5 = .ok (.invokevirtual 106, 3) by decide +kernel) mw_568 mw_565 mw_566 mw_567 mw_45 hd_X1_hasCell ⟨(Nat.le_of_ble_eq_true rfl), (Nat.le_of_ble_eq_true rfl)⟩,
    mm_r_ne1 X (show decode cX10_move 8 = .ok (.ifCond .ne 13, 3) by decide +kernel) (by decide),
    mm_r_thr X htab (E := 1) (ik := 110) (is := 112) (ic := 114) (text := "there is no such cell") (by decide) rfl mm_aw1 mw_569 mw_60 (by decide +kernel) (show decode cX10_move 11 = .ok (.new 110, 3) by decide +kernel) (show decode cX10_move 14 = .ok (.dup, 1) by decide +kernel) (show decode cX10_move 15 = .ok (.ldc 112, 2) by decide +kernel) (show decode cX10_move 17 = .ok (.invokespecial 114, 3) by decide +kernel) (show decode cX10_move 20 = .ok (.athrow, 1) by decide +kernel) (Nat.le_of_ble_eq_true rfl) (Nat.le_of_ble_eq_true rfl),
    mm_r_aload_n X (show decode cX10_move 21 = .ok (.aload_n 0, 1) by decide +kernel) rfl,
    mm_r_gfR X (ci := 10) (p := 1) (show mm_kd 10 1 = 2 by decide +kernel) rfl (Nat.le_of_ble_eq_true rfl) (show decode cX10_move 22 = .ok (.getfield 28, 3) by decide +kernel) mw_429 rfl,
    mm_r_clV X hth (ci := 6) (na := 0) (sn_X6_empty hl) rfl (show decode cX10_move 25 = .ok (.invokevirtual 115, 3) by decide +kernel) mw_483 mw_480 mw_481 mw_482 mw_46 hd_X6_empty ⟨(Nat.le_of_ble_eq_true rfl), (Nat.le_of_ble_eq_true rfl)⟩,
    mm_r_iload_n X (show decode cX10_move 28 = .ok (.iload_n 1, 1) by decide +kernel) rfl,
    mm_r_clS X hth (na := 2) (sn_X10_has hl) (show decode cX10_move 29 = .ok (.invokestatic 119, 3) by decide +kernel) mw_593 mw_727 mw_592 mw_44 hd_X10_has.2 ⟨(Nat.le_of_ble_eq_true rfl), (Nat.le_of_ble_eq_true rfl)⟩,
    mm_r_ne1 X (show decode cX10_move 32 = .ok (.ifCond .ne 13, 3) by decide +kernel) (by decide),
    mm_r_thr X htab (E := 2) (ik := 85) (is := 123) (ic := 89) (text := "the cell is not empty") (by decide) rfl mm_aw2 mw_494 mw_59 (by decide +kernel) (show decode cX10_move 35 = .ok (.new 85, 3) by decide +kernel) (show decode cX10_move 38 = .ok (.dup, 1) by decide +kernel) (show decode cX10_move 39 = .ok (.ldc 123, 2) by decide +kernel) (show decode cX10_move 41 = .ok (.invokespecial 89, 3) by decide +kernel) (show decode cX10_move 44 = .ok (.athrow, 1) by decide +kernel) (Nat.le_of_ble_eq_true rfl) (Nat.le_of_ble_eq_true rfl),
    mm_r_aload_n X (show decode cX10_move 45 = .ok (.aload_n 0, 1) by decide +kernel) rfl,
    mm_r_clV X hth (ci := 10) (na := 0) (sn_X10_winner hl) rfl (show decode cX10_move 46 = .ok (.invokevirtual 125, 3) by decide +kernel) mw_489 mw_486 mw_488 mw_9 mw_44 hd_X10_winner ⟨(Nat.le_of_ble_eq_true rfl), (Nat.le_of_ble_eq_true rfl)⟩,
    mm_r_iconst X (show decode cX10_move 49 = .ok (.iconst (-1), 1) by decide +kernel) rfl,
    mm_r_eq2 X (show decode cX10_move 50 = .ok (.if_icmp .eq 13, 3) by decide +kernel) (by decide),
    mm_r_thr X htab (E := 3) (ik := 129) (is := 131) (ic := 133) (text := "the game is over") (by decide) rfl mm_aw3 mw_729 mw_62 (by decide +kernel) (show decode cX10_move 53 = .ok (.new 129, 3) by decide +kernel) (show decode cX10_move 56 = .ok (.dup, 1) by decide +kernel) (show decode cX10_move 57 = .ok (.ldc 131, 2) by decide +kernel) (show decode cX10_move 59 = .ok (.invokespecial 133, 3) by decide +kernel) (show decode cX10_move 62 = .ok (.athrow, 1) by decide +kernel) (Nat.le_of_ble_eq_true rfl) (Nat.le_of_ble_eq_true rfl),
    mm_r_aload_n X (show decode cX10_move 63 = .ok (.aload_n 0, 1) by decide +kernel) rfl,
    mm_r_gfR X (ci := 10) (p := 7) (show mm_kd 10 7 = 2 by decide +kernel) rfl (Nat.le_of_ble_eq_true rfl) (show decode cX10_move 64 = .ok (.getfield 70, 3) by decide +kernel) mw_435 rfl,
    mm_r_aload_n X (show decode cX10_move 67 = .ok (.aload_n 0, 1) by decide +kernel) rfl,
    mm_r_gfR X (ci := 10) (p := 1) (show mm_kd 10 1 = 2 by decide +kernel) rfl (Nat.le_of_ble_eq_true rfl) (show decode cX10_move 68 = .ok (.getfield 28, 3) by decide +kernel) mw_429 rfl,
    mm_r_clV X hth (ci := 6) (na := 0) (sn_X6_mover hl) rfl (show decode cX10_move 71 = .ok (.invokevirtual 134, 3) by decide +kernel) mw_479 mw_476 mw_477 mw_478 mw_46 hd_X6_mover ⟨(Nat.le_of_ble_eq_true rfl), (Nat.le_of_ble_eq_true rfl)⟩,
    mm_r_clV X hth (ci := 8) (na := 1) (sn_X8_giveBack hl) rfl (show decode cX10_move 74 = .ok (.invokevirtual 137, 3) by decide +kernel) mw_748 mw_745 mw_746 mw_747 mw_54 hd_X8_giveBack ⟨(Nat.le_of_ble_eq_true rfl), (Nat.le_of_ble_eq_true rfl)⟩,
    mm_r_aload_n X (show decode cX10_move 77 = .ok (.aload_n 0, 1) by decide +kernel) rfl,
    mm_r_gfR X (ci := 10) (p := 1) (show mm_kd 10 1 = 2 by decide +kernel) rfl (Nat.le_of_ble_eq_true rfl) (show decode cX10_move 78 = .ok (.getfield 28, 3) by decide +kernel) mw_429 rfl,
    mm_r_iload_n X (show decode cX10_move 81 = .ok (.iload_n 1, 1) by decide +kernel) rfl,
    mm_r_clV X hth (ci := 6) (na := 1) (sn_X6_put hl) rfl (show decode cX10_move 82 = .ok (.invokevirtual 141, 3) by decide +kernel) mw_752 mw_749 mw_750 mw_751 mw_46 hd_X6_put ⟨(Nat.le_of_ble_eq_true rfl), (Nat.le_of_ble_eq_true rfl)⟩,
    mm_r_aload_n X (show decode cX10_move 85 = .ok (.aload_n 0, 1) by decide +kernel) rfl,
    mm_r_clV X hth (ci := 10) (na := 0) (sn_X10_winner hl) rfl (show decode cX10_move 86 = .ok (.invokevirtual 125, 3) by decide +kernel) mw_489 mw_486 mw_488 mw_9 mw_44 hd_X10_winner ⟨(Nat.le_of_ble_eq_true rfl), (Nat.le_of_ble_eq_true rfl)⟩,
    mm_r_iret X hret (show decode cX10_move 89 = .ok (.ireturn, 1) by decide +kernel), trivial⟩
theorem sn_X10_move {l : Launch} (hl : l.stackTraces = false) : mm_Snd l yX10_move (.code yX10_move cX10_move 2 (some .int)) 7 164 f_X10_move := mm_met hl (plainFor_of_name (by decide +kernel)) (ok_X10_move hl)
/-! Linkcourt$Board.exchanged(I)I -/
noncomputable def tb_X1_exchanged : List (Nat × mm_I) := [(0, mm_ldR 1 0), (1, mm_gfI 4 1 7), (4, mm_ne1 35 7), (7, mm_ldR 8 0), (8, mm_gfI 11 1 5), (11, mm_ldR 12 0), (12, mm_gfI 15 1 6), (15, mm_ne2 35 18), (18, mm_ldR 19 0), (19, mm_ldR 20 0), (20, mm_ldI 21 1), (21, mm_clV 24 1 1 f_X1_column), (24, mm_ldR 25 0), (25, mm_ldI 26 1), (26, mm_clV 29 1 1 f_X1_row), (29, mm_clV 32 1 2 f_X1_at), (32, mm_go 36), (35, mm_ldI 36 1), (36, mm_rtI)]
noncomputable def f_X1_exchanged : mm_F := mm_do (mm_pr tb_X1_exchanged) 2
theorem mn_X1_exchanged : mm_alln tb_X1_exchanged := ⟨mm_n_ldR _ _, mm_n_gfI _ _ _, mm_n_ne1 _ _, mm_n_ldR _ _, mm_n_gfI _ _ _, mm_n_ldR _ _, mm_n_gfI _ _ _, mm_n_ne2 _ _, mm_n_ldR _ _, mm_n_ldR _ _, mm_n_ldI _ _, mm_n_clV _ _ _ (mo_X1_column), mm_n_ldR _ _, mm_n_ldI _ _, mm_n_clV _ _ _ (mo_X1_row), mm_n_clV _ _ _ (mo_X1_at), mm_n_go _, mm_n_ldI _ _, mm_n_rtI, trivial⟩
theorem mo_X1_exchanged : mm_Mo f_X1_exchanged := mm_do_mo (mm_alln_mem mn_X1_exchanged)
set_option maxRecDepth 10000 in
theorem ok_X1_exchanged {l : Launch} (hl : l.stackTraces = false) : mm_Ok l yX1_exchanged cX1_exchanged 2 (some .int) 2 42 tb_X1_exchanged := by
  refine ⟨mm_alln_mem mn_X1_exchanged, fun p e cells slots s m args below meth c D tc A S ad Tg X hret hname htab hth => mm_allr_mem ?_⟩
  exact ⟨mm_r_aload_n X (show decode cX1_exchanged 0 = .ok (.aload_n 0, 1) by decide +kernel) rfl,
    mm_r_gfI X (ci := 1) (p := 7) (show mm_kd 1 7 = 0 by decide +kernel) rfl (Nat.le_of_ble_eq_true rfl) (show decode cX1_exchanged 1 = .ok (.getfield 28, 3) by decide +kernel) mw_86 rfl,
    mm_r_ne1 X (show decode cX1_exchanged 4 = .ok (.ifCond .ne 31, 3) by decide +kernel) (by decide),
    mm_r_aload_n X (show decode cX1_exchanged 7 = .ok (.aload_n 0, 1) by decide +kernel) rfl,
    mm_r_gfI X (ci := 1) (p := 5) (show mm_kd 1 5 = 0 by decide +kernel) rfl (Nat.le_of_ble_eq_true rfl) (show decode cX1_exchanged 8 = .ok (.getfield 32, 3) by decide +kernel) mw_84 rfl,
    mm_r_aload_n X (show decode cX1_exchanged 11 = .ok (.aload_n 0, 1) by decide +kernel) rfl,
    mm_r_gfI X (ci := 1) (p := 6) (show mm_kd 1 6 = 0 by decide +kernel) rfl (Nat.le_of_ble_eq_true rfl) (show decode cX1_exchanged 12 = .ok (.getfield 35, 3) by decide +kernel) mw_85 rfl,
    mm_r_ne2 X (show decode cX1_exchanged 15 = .ok (.if_icmp .ne 20, 3) by decide +kernel) (by decide),
    mm_r_aload_n X (show decode cX1_exchanged 18 = .ok (.aload_n 0, 1) by decide +kernel) rfl,
    mm_r_aload_n X (show decode cX1_exchanged 19 = .ok (.aload_n 0, 1) by decide +kernel) rfl,
    mm_r_iload_n X (show decode cX1_exchanged 20 = .ok (.iload_n 1, 1) by decide +kernel) rfl,
    mm_r_clV X hth (ci := 1) (na := 1) (sn_X1_column hl) rfl (show decode cX1_exchanged 21 = .ok (.invokevirtual 78, 3) by decide +kernel) mw_161 mw_158 mw_159 mw_160 mw_45 hd_X1_column ⟨(Nat.le_of_ble_eq_true rfl), (Nat.le_of_ble_eq_true rfl)⟩,
    mm_r_aload_n X (show decode cX1_exchanged 24 = .ok (.aload_n 0, 1) by decide +kernel) rfl,
    mm_r_iload_n X (show decode cX1_exchanged 25 = .ok (.iload_n 1, 1) by decide +kernel) rfl,
    mm_r_clV X hth (ci := 1) (na := 1) (sn_X1_row hl) rfl (show decode cX1_exchanged 26 = .ok (.invokevirtual 74, 3) by decide +kernel) mw_157 mw_154 mw_155 mw_156 mw_45 hd_X1_row ⟨(Nat.le_of_ble_eq_true rfl), (Nat.le_of_ble_eq_true rfl)⟩,
    mm_r_clV X hth (ci := 1) (na := 2) (sn_X1_at hl) rfl (show decode cX1_exchanged 29 = .ok (.invokevirtual 66, 3) by decide +kernel) mw_145 mw_142 mw_144 mw_2 mw_45 hd_X1_at ⟨(Nat.le_of_ble_eq_true rfl), (Nat.le_of_ble_eq_true rfl)⟩,
    mm_r_goto X (show decode cX1_exchanged 32 = .ok (.goto 4, 3) by decide +kernel) (by decide),
    mm_r_iload_n X (show decode cX1_exchanged 35 = .ok (.iload_n 1, 1) by decide +kernel) rfl,
    mm_r_iret X hret (show decode cX1_exchanged 36 = .ok (.ireturn, 1) by decide +kernel), trivial⟩
theorem sn_X1_exchanged {l : Launch} (hl : l.stackTraces = false) : mm_Snd l yX1_exchanged (.code yX1_exchanged cX1_exchanged 2 (some .int)) 2 42 f_X1_exchanged := mm_met hl (plainFor_of_name (by decide +kernel)) (ok_X1_exchanged hl)
/-! Linkcourt$Play.exchange()I -/
noncomputable def tb_X6_exchange : List (Nat × mm_I) := [(0, mm_ldR 1 0), (1, mm_gfR 4 6 0), (4, mm_ldR 5 0), (5, mm_gfR 8 6 1), (8, mm_k 9 (.int 0)), (9, mm_ald 10 0), (10, mm_clV 13 1 1 f_X1_exchanged), (13, mm_stI 14 1), (14, mm_ldR 15 0), (15, mm_k 16 (.int 1)), (16, mm_pfZ 19 6 3), (19, mm_ldR 20 0), (20, mm_ldI 21 1), (21, mm_clV 24 6 1 f_X6_put), (24, mm_ldI 25 1), (25, mm_rtI)]
noncomputable def f_X6_exchange : mm_F := mm_do (mm_pr tb_X6_exchange) 2
theorem mn_X6_exchange : mm_alln tb_X6_exchange := ⟨mm_n_ldR _ _, mm_n_gfR _ _ _, mm_n_ldR _ _, mm_n_gfR _ _ _, mm_n_k _ _, mm_n_ald _ _, mm_n_clV _ _ _ (mo_X1_exchanged), mm_n_stI _ _, mm_n_ldR _ _, mm_n_k _ _, mm_n_pfZ _ _ _, mm_n_ldR _ _, mm_n_ldI _ _, mm_n_clV _ _ _ (mo_X6_put), mm_n_ldI _ _, mm_n_rtI, trivial⟩
theorem mo_X6_exchange : mm_Mo f_X6_exchange := mm_do_mo (mm_alln_mem mn_X6_exchange)
set_option maxRecDepth 10000 in
theorem ok_X6_exchange {l : Launch} (hl : l.stackTraces = false) : mm_Ok l yX6_exchange cX6_exchange 2 (some .int) 7 164 tb_X6_exchange := by
  refine ⟨mm_alln_mem mn_X6_exchange, fun p e cells slots s m args below meth c D tc A S ad Tg X hret hname htab hth => mm_allr_mem ?_⟩
  exact ⟨mm_r_aload_n X (show decode cX6_exchange 0 = .ok (.aload_n 0, 1) by decide +kernel) rfl,
    mm_r_gfR X (ci := 6) (p := 0) (show mm_kd 6 0 = 2 by decide +kernel) rfl (Nat.le_of_ble_eq_true rfl) (show decode cX6_exchange 1 = .ok (.getfield 19, 3) by decide +kernel) mw_168 rfl,
    mm_r_aload_n X (show decode cX6_exchange 4 = .ok (.aload_n 0, 1) by decide +kernel) rfl,
    mm_r_gfR X (ci := 6) (p := 1) (show mm_kd 6 1 = 2 by decide +kernel) rfl (Nat.le_of_ble_eq_true rfl) (show decode cX6_exchange 5 = .ok (.getfield 9, 3) by decide +kernel) mw_169 rfl,
    mm_r_iconst X (show decode cX6_exchange 8 = .ok (.iconst 0, 1) by decide +kernel) rfl,
    mm_r_iald X (show decode cX6_exchange 9 = .ok (.iaload, 1) by decide +kernel),
    mm_r_clV X hth (ci := 1) (na := 1) (sn_X1_exchanged hl) rfl (show decode cX6_exchange 10 = .ok (.invokevirtual 33, 3) by decide +kernel) mw_765 mw_762 mw_763 mw_764 mw_45 hd_X1_exchanged ⟨(Nat.le_of_ble_eq_true rfl), (Nat.le_of_ble_eq_true rfl)⟩,
    mm_r_istore_n X (show decode cX6_exchange 13 = .ok (.istore_n 1, 1) by decide +kernel) rfl (Nat.le_of_ble_eq_true rfl),
    mm_r_aload_n X (show decode cX6_exchange 14 = .ok (.aload_n 0, 1) by decide +kernel) rfl,
    mm_r_iconst X (show decode cX6_exchange 15 = .ok (.iconst 1, 1) by decide +kernel) rfl,
    mm_r_pfZ X (ci := 6) (p := 3) (show mm_kd 6 3 = 0 by decide +kernel) rfl rfl (Nat.le_of_ble_eq_true rfl) (show decode cX6_exchange 16 = .ok (.putfield 26, 3) by decide +kernel) mw_172 rfl rfl,
    mm_r_aload_n X (show decode cX6_exchange 19 = .ok (.aload_n 0, 1) by decide +kernel) rfl,
    mm_r_iload_n X (show decode cX6_exchange 20 = .ok (.iload_n 1, 1) by decide +kernel) rfl,
    mm_r_clV X hth (ci := 6) (na := 1) (sn_X6_put hl) rfl (show decode cX6_exchange 21 = .ok (.invokevirtual 39, 3) by decide +kernel) mw_752 mw_766 mw_750 mw_751 mw_46 hd_X6_put ⟨(Nat.le_of_ble_eq_true rfl), (Nat.le_of_ble_eq_true rfl)⟩,
    mm_r_iload_n X (show decode cX6_exchange 24 = .ok (.iload_n 1, 1) by decide +kernel) rfl,
    mm_r_iret X hret (show decode cX6_exchange 25 = .ok (.ireturn, 1) by decide +kernel), trivial⟩
theorem sn_X6_exchange {l : Launch} (hl : l.stackTraces = false) : mm_Snd l yX6_exchange (.code yX6_exchange cX6_exchange 2 (some .int)) 7 164 f_X6_exchange := mm_met hl (plainFor_of_name (by decide +kernel)) (ok_X6_exchange hl)
/-! Linkcourt.swap()I -/
noncomputable def tb_X10_swap : List (Nat × mm_I) := [(0, mm_ldR 1 0), (1, mm_clV 4 10 0 f_X10_winner), (4, mm_k 5 (.int (-1))), (5, mm_ne2 19 8), (8, mm_ldR 9 0), (9, mm_gfR 12 10 1), (12, mm_gfI 15 6 2), (15, mm_k 16 (.int 1)), (16, mm_eq2 29 19), (19, mm_thr 3), (29, mm_ldR 30 0), (30, mm_gfR 33 10 7), (33, mm_ldR 34 0), (34, mm_gfR 37 10 1), (37, mm_clV 40 6 0 f_X6_mover), (40, mm_clV 43 8 1 f_X8_giveBack), (43, mm_ldR 44 0), (44, mm_gfR 47 10 1), (47, mm_clV 50 6 0 f_X6_exchange), (50, mm_rtI)]
noncomputable def f_X10_swap : mm_F := mm_do (mm_pr tb_X10_swap) 1
theorem mn_X10_swap : mm_alln tb_X10_swap := ⟨mm_n_ldR _ _, mm_n_clV _ _ _ (mo_X10_winner), mm_n_k _ _, mm_n_ne2 _ _, mm_n_ldR _ _, mm_n_gfR _ _ _, mm_n_gfI _ _ _, mm_n_k _ _, mm_n_eq2 _ _, mm_n_thr _, mm_n_ldR _ _, mm_n_gfR _ _ _, mm_n_ldR _ _, mm_n_gfR _ _ _, mm_n_clV _ _ _ (mo_X6_mover), mm_n_clV _ _ _ (mo_X8_giveBack), mm_n_ldR _ _, mm_n_gfR _ _ _, mm_n_clV _ _ _ (mo_X6_exchange), mm_n_rtI, trivial⟩
theorem mo_X10_swap : mm_Mo f_X10_swap := mm_do_mo (mm_alln_mem mn_X10_swap)
set_option maxRecDepth 10000 in
theorem ok_X10_swap {l : Launch} (hl : l.stackTraces = false) : mm_Ok l yX10_swap cX10_swap 1 (some .int) 8 185 tb_X10_swap := by
  refine ⟨mm_alln_mem mn_X10_swap, fun p e cells slots s m args below meth c D tc A S ad Tg X hret hname htab hth => mm_allr_mem ?_⟩
  exact ⟨mm_r_aload_n X (show decode cX10_swap 0 = .ok (.aload_n 0, 1) by decide +kernel) rfl,
    mm_r_clV X hth (ci := 10) (na := 0) (sn_X10_winner hl) rfl (show decode cX10_swap 1 = .ok (.invokevirtual 125, 3) by decide +kernel) mw_489 mw_486 mw_488 mw_9 mw_44 hd_X10_winner ⟨(Nat.le_of_ble_eq_true rfl), (Nat.le_of_ble_eq_true rfl)⟩,
    mm_r_iconst X (show decode cX10_swap 4 = .ok (.iconst (-1), 1) by decide +kernel) rfl,
    mm_r_ne2 X (show decode cX10_swap 5 = .ok (.if_icmp .ne 14, 3) by decide +kernel) (by decide),
    mm_r_aload_n X (show decode cX10_swap 8 = .ok (.aload_n 0, 1) by decide +kernel) rfl,
    mm_r_gfR X (ci := 10) (p := 1) (show mm_kd 10 1 = 2 by decide +kernel) rfl (Nat.le_of_ble_eq_true rfl) (show decode cX10_swap 9 = .ok (.getfield 28, 3) by decide +kernel) mw_429 rfl,
    mm_r_gfI X (ci := 6) (p := 2) (show mm_kd 6 2 = 0 by decide +kernel) rfl (Nat.le_of_ble_eq_true rfl) (show decode cX10_swap 12 = .ok (.getfield 144, 3) by decide +kernel) mw_171 rfl,
    mm_r_iconst X (show decode cX10_swap 15 = .ok (.iconst 1, 1) by decide +kernel) rfl,
    mm_r_eq2 X (show decode cX10_swap 16 = .ok (.if_icmp .eq 13, 3) by decide +kernel) (by decide),
    mm_r_thr X htab (E := 3) (ik := 129) (is := 147) (ic := 133) (text := "it is not the second move of a game that goes on") (by decide) rfl mm_aw3 mw_729 mw_62 (by decide +kernel) (show decode cX10_swap 19 = .ok (.new 129, 3) by decide +kernel) (show decode cX10_swap 22 = .ok (.dup, 1) by decide +kernel) (show decode cX10_swap 23 = .ok (.ldc 147, 2) by decide +kernel) (show decode cX10_swap 25 = .ok (.invokespecial 133, 3) by decide +kernel) (show decode cX10_swap 28 = .ok (.athrow, 1) by decide +kernel) (Nat.le_of_ble_eq_true rfl) (Nat.le_of_ble_eq_true rfl),
    mm_r_aload_n X (show decode cX10_swap 29 = .ok (.aload_n 0, 1) by decide +kernel) rfl,
    mm_r_gfR X (ci := 10) (p := 7) (show mm_kd 10 7 = 2 by decide +kernel) rfl (Nat.le_of_ble_eq_true rfl) (show decode cX10_swap 30 = .ok (.getfield 70, 3) by decide +kernel) mw_435 rfl,
    mm_r_aload_n X (show decode cX10_swap 33 = .ok (.aload_n 0, 1) by decide +kernel) rfl,
    mm_r_gfR X (ci := 10) (p := 1) (show mm_kd 10 1 = 2 by decide +kernel) rfl (Nat.le_of_ble_eq_true rfl) (show decode cX10_swap 34 = .ok (.getfield 28, 3) by decide +kernel) mw_429 rfl,
    mm_r_clV X hth (ci := 6) (na := 0) (sn_X6_mover hl) rfl (show decode cX10_swap 37 = .ok (.invokevirtual 134, 3) by decide +kernel) mw_479 mw_476 mw_477 mw_478 mw_46 hd_X6_mover ⟨(Nat.le_of_ble_eq_true rfl), (Nat.le_of_ble_eq_true rfl)⟩,
    mm_r_clV X hth (ci := 8) (na := 1) (sn_X8_giveBack hl) rfl (show decode cX10_swap 40 = .ok (.invokevirtual 137, 3) by decide +kernel) mw_748 mw_745 mw_746 mw_747 mw_54 hd_X8_giveBack ⟨(Nat.le_of_ble_eq_true rfl), (Nat.le_of_ble_eq_true rfl)⟩,
    mm_r_aload_n X (show decode cX10_swap 43 = .ok (.aload_n 0, 1) by decide +kernel) rfl,
    mm_r_gfR X (ci := 10) (p := 1) (show mm_kd 10 1 = 2 by decide +kernel) rfl (Nat.le_of_ble_eq_true rfl) (show decode cX10_swap 44 = .ok (.getfield 28, 3) by decide +kernel) mw_429 rfl,
    mm_r_clV X hth (ci := 6) (na := 0) (sn_X6_exchange hl) rfl (show decode cX10_swap 47 = .ok (.invokevirtual 149, 3) by decide +kernel) mw_761 mw_758 mw_759 mw_760 mw_46 hd_X6_exchange ⟨(Nat.le_of_ble_eq_true rfl), (Nat.le_of_ble_eq_true rfl)⟩,
    mm_r_iret X hret (show decode cX10_swap 50 = .ok (.ireturn, 1) by decide +kernel), trivial⟩
theorem sn_X10_swap {l : Launch} (hl : l.stackTraces = false) : mm_Snd l yX10_swap (.code yX10_swap cX10_swap 1 (some .int)) 8 185 f_X10_swap := mm_met hl (plainFor_of_name (by decide +kernel)) (ok_X10_swap hl)
/-! Linkcourt$Play.takeBack()V -/
noncomputable def tb_X6_takeBack : List (Nat × mm_I) := [(0, mm_ldR 1 0), (1, mm_dup 2), (2, mm_gfI 5 6 2), (5, mm_k 6 (.int 1)), (6, mm_i2 7 (fun a b => a - b)), (7, mm_pfI 10 6 2), (10, mm_ldR 11 0), (11, mm_ldR 12 0), (12, mm_gfI 15 6 3), (15, mm_eq1 30 18), (18, mm_ldR 19 0), (19, mm_gfI 22 6 2), (22, mm_k 23 (.int 1)), (23, mm_le2 30 26), (26, mm_k 27 (.int 1)), (27, mm_go 31), (30, mm_k 31 (.int 0)), (31, mm_pfZ 34 6 3), (34, mm_ldR 35 0), (35, mm_clV 38 6 0 f_X6_settle), (38, mm_rtV)]
noncomputable def f_X6_takeBack : mm_F := mm_do (mm_pr tb_X6_takeBack) 1
theorem mn_X6_takeBack : mm_alln tb_X6_takeBack := ⟨mm_n_ldR _ _, mm_n_dup _, mm_n_gfI _ _ _, mm_n_k _ _, mm_n_i2 _ _, mm_n_pfI _ _ _, mm_n_ldR _ _, mm_n_ldR _ _, mm_n_gfI _ _ _, mm_n_eq1 _ _, mm_n_ldR _ _, mm_n_gfI _ _ _, mm_n_k _ _, mm_n_le2 _ _, mm_n_k _ _, mm_n_go _, mm_n_k _ _, mm_n_pfZ _ _ _, mm_n_ldR _ _, mm_n_clV _ _ _ (mo_X6_settle), mm_n_rtV, trivial⟩
theorem mo_X6_takeBack : mm_Mo f_X6_takeBack := mm_do_mo (mm_alln_mem mn_X6_takeBack)
set_option maxRecDepth 10000 in
theorem ok_X6_takeBack {l : Launch} (hl : l.stackTraces = false) : mm_Ok l yX6_takeBack cX6_takeBack 1 none 6 143 tb_X6_takeBack := by
  refine ⟨mm_alln_mem mn_X6_takeBack, fun p e cells slots s m args below meth c D tc A S ad Tg X hret hname htab hth => mm_allr_mem ?_⟩
  exact ⟨mm_r_aload_n X (show decode cX6_takeBack 0 = .ok (.aload_n 0, 1) by decide +kernel) rfl,
    mm_r_dup X (show decode cX6_takeBack 1 = .ok (.dup, 1) by decide +kernel),
    mm_r_gfI X (ci := 6) (p := 2) (show mm_kd 6 2 = 0 by decide +kernel) rfl (Nat.le_of_ble_eq_true rfl) (show decode cX6_takeBack 2 = .ok (.getfield 23, 3) by decide +kernel) mw_170 rfl,
    mm_r_iconst X (show decode cX6_takeBack 5 = .ok (.iconst 1, 1) by decide +kernel) rfl,
    mm_r_isub X (show decode cX6_takeBack 6 = .ok (.isub, 1) by decide +kernel),
    mm_r_pfI X (ci := 6) (p := 2) (show mm_kd 6 2 = 0 by decide +kernel) rfl rfl (Nat.le_of_ble_eq_true rfl) (show decode cX6_takeBack 7 = .ok (.putfield 23, 3) by decide +kernel) mw_170 rfl rfl,
    mm_r_aload_n X (show decode cX6_takeBack 10 = .ok (.aload_n 0, 1) by decide +kernel) rfl,
    mm_r_aload_n X (show decode cX6_takeBack 11 = .ok (.aload_n 0, 1) by decide +kernel) rfl,
    mm_r_gfI X (ci := 6) (p := 3) (show mm_kd 6 3 = 0 by decide +kernel) rfl (Nat.le_of_ble_eq_true rfl) (show decode cX6_takeBack 12 = .ok (.getfield 26, 3) by decide +kernel) mw_172 rfl,
    mm_r_eq1 X (show decode cX6_takeBack 15 = .ok (.ifCond .eq 15, 3) by decide +kernel) (by decide),
    mm_r_aload_n X (show decode cX6_takeBack 18 = .ok (.aload_n 0, 1) by decide +kernel) rfl,
    mm_r_gfI X (ci := 6) (p := 2) (show mm_kd 6 2 = 0 by decide +kernel) rfl (Nat.le_of_ble_eq_true rfl) (show decode cX6_takeBack 19 = .ok (.getfield 23, 3) by decide +kernel) mw_170 rfl,
    mm_r_iconst X (show decode cX6_takeBack 22 = .ok (.iconst 1, 1) by decide +kernel) rfl,
    mm_r_le2 X (show decode cX6_takeBack 23 = .ok (.if_icmp .le 7, 3) by decide +kernel) (by decide),
    mm_r_iconst X (show decode cX6_takeBack 26 = .ok (.iconst 1, 1) by decide +kernel) rfl,
    mm_r_goto X (show decode cX6_takeBack 27 = .ok (.goto 4, 3) by decide +kernel) (by decide),
    mm_r_iconst X (show decode cX6_takeBack 30 = .ok (.iconst 0, 1) by decide +kernel) rfl,
    mm_r_pfZ X (ci := 6) (p := 3) (show mm_kd 6 3 = 0 by decide +kernel) rfl rfl (Nat.le_of_ble_eq_true rfl) (show decode cX6_takeBack 31 = .ok (.putfield 26, 3) by decide +kernel) mw_172 rfl rfl,
    mm_r_aload_n X (show decode cX6_takeBack 34 = .ok (.aload_n 0, 1) by decide +kernel) rfl,
    mm_r_clV X hth (ci := 6) (na := 0) (sn_X6_settle hl) rfl (show decode cX6_takeBack 35 = .ok (.invokevirtual 30, 3) by decide +kernel) mw_202 mw_199 mw_201 mw_5 mw_46 hd_X6_settle ⟨(Nat.le_of_ble_eq_true rfl), (Nat.le_of_ble_eq_true rfl)⟩,
    mm_r_vret X hret (show decode cX6_takeBack 38 = .ok (.return_, 1) by decide +kernel), trivial⟩
theorem sn_X6_takeBack {l : Launch} (hl : l.stackTraces = false) : mm_Snd l yX6_takeBack (.code yX6_takeBack cX6_takeBack 1 none) 6 143 f_X6_takeBack := mm_met hl (plainFor_of_name (by decide +kernel)) (ok_X6_takeBack hl)
/-! Linkcourt.undo()I -/
noncomputable def tb_X10_undo : List (Nat × mm_I) := [(0, mm_ldR 1 0), (1, mm_gfR 4 10 1), (4, mm_gfI 7 6 2), (7, mm_eq1 28 10), (10, mm_ldR 11 0), (11, mm_gfR 14 10 7), (14, mm_gfI 17 8 5), (17, mm_k 18 (.int (-1))), (18, mm_ne2 28 21), (21, mm_ldR 22 0), (22, mm_gfI 25 10 9), (25, mm_eq1 38 28), (28, mm_thr 3), (38, mm_ldR 39 0), (39, mm_gfR 42 10 1), (42, mm_clV 45 6 0 f_X6_takeBack), (45, mm_ldR 46 0), (46, mm_gfR 49 10 1), (49, mm_gfI 52 6 2), (52, mm_rtI)]
noncomputable def f_X10_undo : mm_F := mm_do (mm_pr tb_X10_undo) 1
theorem mn_X10_undo : mm_alln tb_X10_undo := ⟨mm_n_ldR _ _, mm_n_gfR _ _ _, mm_n_gfI _ _ _, mm_n_eq1 _ _, mm_n_ldR _ _, mm_n_gfR _ _ _, mm_n_gfI _ _ _, mm_n_k _ _, mm_n_ne2 _ _, mm_n_ldR _ _, mm_n_gfI _ _ _, mm_n_eq1 _ _, mm_n_thr _, mm_n_ldR _ _, mm_n_gfR _ _ _, mm_n_clV _ _ _ (mo_X6_takeBack), mm_n_ldR _ _, mm_n_gfR _ _ _, mm_n_gfI _ _ _, mm_n_rtI, trivial⟩
theorem mo_X10_undo : mm_Mo f_X10_undo := mm_do_mo (mm_alln_mem mn_X10_undo)
set_option maxRecDepth 10000 in
theorem ok_X10_undo {l : Launch} (hl : l.stackTraces = false) : mm_Ok l yX10_undo cX10_undo 1 (some .int) 7 163 tb_X10_undo := by
  refine ⟨mm_alln_mem mn_X10_undo, fun p e cells slots s m args below meth c D tc A S ad Tg X hret hname htab hth => mm_allr_mem ?_⟩
  exact ⟨mm_r_aload_n X (show decode cX10_undo 0 = .ok (.aload_n 0, 1) by decide +kernel) rfl,
    mm_r_gfR X (ci := 10) (p := 1) (show mm_kd 10 1 = 2 by decide +kernel) rfl (Nat.le_of_ble_eq_true rfl) (show decode cX10_undo 1 = .ok (.getfield 28, 3) by decide +kernel) mw_429 rfl,
    mm_r_gfI X (ci := 6) (p := 2) (show mm_kd 6 2 = 0 by decide +kernel) rfl (Nat.le_of_ble_eq_true rfl) (show decode cX10_undo 4 = .ok (.getfield 144, 3) by decide +kernel) mw_171 rfl,
    mm_r_eq1 X (show decode cX10_undo 7 = .ok (.ifCond .eq 21, 3) by decide +kernel) (by decide),
    mm_r_aload_n X (show decode cX10_undo 10 = .ok (.aload_n 0, 1) by decide +kernel) rfl,
    mm_r_gfR X (ci := 10) (p := 7) (show mm_kd 10 7 = 2 by decide +kernel) rfl (Nat.le_of_ble_eq_true rfl) (show decode cX10_undo 11 = .ok (.getfield 70, 3) by decide +kernel) mw_435 rfl,
    mm_r_gfI X (ci := 8) (p := 5) (show mm_kd 8 5 = 0 by decide +kernel) rfl (Nat.le_of_ble_eq_true rfl) (show decode cX10_undo 14 = .ok (.getfield 152, 3) by decide +kernel) mw_391 rfl,
    mm_r_iconst X (show decode cX10_undo 17 = .ok (.iconst (-1), 1) by decide +kernel) rfl,
    mm_r_ne2 X (show decode cX10_undo 18 = .ok (.if_icmp .ne 10, 3) by decide +kernel) (by decide),
    mm_r_aload_n X (show decode cX10_undo 21 = .ok (.aload_n 0, 1) by decide +kernel) rfl,
    mm_r_gfI X (ci := 10) (p := 9) (show mm_kd 10 9 = 0 by decide +kernel) rfl (Nat.le_of_ble_eq_true rfl) (show decode cX10_undo 22 = .ok (.getfield 98, 3) by decide +kernel) mw_437 rfl,
    mm_r_eq1 X (show decode cX10_undo 25 = .ok (.ifCond .eq 13, 3) by decide +kernel) (by decide),
    mm_r_thr X htab (E := 3) (ik := 129) (is := 155) (ic := 133) (text := "no move can be taken back") (by decide) rfl mm_aw3 mw_729 mw_62 (by decide +kernel) (show decode cX10_undo 28 = .ok (.new 129, 3) by decide +kernel) (show decode cX10_undo 31 = .ok (.dup, 1) by decide +kernel) (show decode cX10_undo 32 = .ok (.ldc 155, 2) by decide +kernel) (show decode cX10_undo 34 = .ok (.invokespecial 133, 3) by decide +kernel) (show decode cX10_undo 37 = .ok (.athrow, 1) by decide +kernel) (Nat.le_of_ble_eq_true rfl) (Nat.le_of_ble_eq_true rfl),
    mm_r_aload_n X (show decode cX10_undo 38 = .ok (.aload_n 0, 1) by decide +kernel) rfl,
    mm_r_gfR X (ci := 10) (p := 1) (show mm_kd 10 1 = 2 by decide +kernel) rfl (Nat.le_of_ble_eq_true rfl) (show decode cX10_undo 39 = .ok (.getfield 28, 3) by decide +kernel) mw_429 rfl,
    mm_r_clV X hth (ci := 6) (na := 0) (sn_X6_takeBack hl) rfl (show decode cX10_undo 42 = .ok (.invokevirtual 157, 3) by decide +kernel) mw_775 mw_772 mw_773 mw_774 mw_46 hd_X6_takeBack ⟨(Nat.le_of_ble_eq_true rfl), (Nat.le_of_ble_eq_true rfl)⟩,
    mm_r_aload_n X (show decode cX10_undo 45 = .ok (.aload_n 0, 1) by decide +kernel) rfl,
    mm_r_gfR X (ci := 10) (p := 1) (show mm_kd 10 1 = 2 by decide +kernel) rfl (Nat.le_of_ble_eq_true rfl) (show decode cX10_undo 46 = .ok (.getfield 28, 3) by decide +kernel) mw_429 rfl,
    mm_r_gfI X (ci := 6) (p := 2) (show mm_kd 6 2 = 0 by decide +kernel) rfl (Nat.le_of_ble_eq_true rfl) (show decode cX10_undo 49 = .ok (.getfield 144, 3) by decide +kernel) mw_171 rfl,
    mm_r_iret X hret (show decode cX10_undo 52 = .ok (.ireturn, 1) by decide +kernel), trivial⟩
theorem sn_X10_undo {l : Launch} (hl : l.stackTraces = false) : mm_Snd l yX10_undo (.code yX10_undo cX10_undo 1 (some .int)) 7 163 f_X10_undo := mm_met hl (plainFor_of_name (by decide +kernel)) (ok_X10_undo hl)
/-! Linkcourt$Board.groups(J)I -/
noncomputable def tb_X1_groups : List (Nat × mm_I) := [(0, mm_k 1 (.int 0)), (1, mm_stI 2 3), (2, mm_ldJ 3 1), (3, mm_stJ 5 4), (5, mm_ldJ 7 4), (7, mm_k 8 (.long 0)), (8, mm_cmp 9), (9, mm_eq1 44 12), (12, mm_ldI 13 3), (13, mm_k 15 (.int 36)), (15, mm_ge2 44 18), (18, mm_ldJ 20 4), (20, mm_ldR 21 0), (21, mm_ldJ 23 4), (23, mm_ldJ 25 4), (25, mm_l1 26 (fun a => -a)), (26, mm_l2 27 (fun a b => a &&& b)), (27, mm_ldJ 28 1), (28, mm_clV 31 1 2 f_X1_reach), (31, mm_k 34 (.long (-1))), (34, mm_l2 35 (fun a b => a ^^^ b)), (35, mm_l2 36 (fun a b => a &&& b)), (36, mm_stJ 38 4), (38, mm_inc 41 3 1), (41, mm_go 5), (44, mm_ldI 45 3), (45, mm_rtI)]
noncomputable def f_X1_groups : mm_F := mm_do (mm_pr tb_X1_groups) 6
theorem mn_X1_groups : mm_alln tb_X1_groups := ⟨mm_n_k _ _, mm_n_stI _ _, mm_n_ldJ _ _, mm_n_stJ _ _, mm_n_ldJ _ _, mm_n_k _ _, mm_n_cmp _, mm_n_eq1 _ _, mm_n_ldI _ _, mm_n_k _ _, mm_n_ge2 _ _, mm_n_ldJ _ _, mm_n_ldR _ _, mm_n_ldJ _ _, mm_n_ldJ _ _, mm_n_l1 _ _, mm_n_l2 _ _, mm_n_ldJ _ _, mm_n_clV _ _ _ (mo_X1_reach), mm_n_k _ _, mm_n_l2 _ _, mm_n_l2 _ _, mm_n_stJ _ _, mm_n_inc _ _ _, mm_n_go _, mm_n_ldI _ _, mm_n_rtI, trivial⟩
theorem mo_X1_groups : mm_Mo f_X1_groups := mm_do_mo (mm_alln_mem mn_X1_groups)
set_option maxRecDepth 10000 in
theorem ok_X1_groups {l : Launch} (hl : l.stackTraces = false) : mm_Ok l yX1_groups cX1_groups 6 (some .int) 3 73 tb_X1_groups := by
  refine ⟨mm_alln_mem mn_X1_groups, fun p e cells slots s m args below meth c D tc A S ad Tg X hret hname htab hth => mm_allr_mem ?_⟩
  exact ⟨mm_r_iconst X (show decode cX1_groups 0 = .ok (.iconst 0, 1) by decide +kernel) rfl,
    mm_r_istore_n X (show decode cX1_groups 1 = .ok (.istore_n 3, 1) by decide +kernel) rfl (Nat.le_of_ble_eq_true rfl),
    mm_r_lload_n X (show decode cX1_groups 2 = .ok (.lload_n 1, 1) by decide +kernel) rfl,
    mm_r_lstore X (show decode cX1_groups 3 = .ok (.lstore 4, 2) by decide +kernel) (Nat.le_of_ble_eq_true rfl),
    mm_r_lload X (show decode cX1_groups 5 = .ok (.lload 4, 2) by decide +kernel),
    mm_r_lconst X (show decode cX1_groups 7 = .ok (.lconst 0, 1) by decide +kernel) rfl,
    mm_r_lcmp X (show decode cX1_groups 8 = .ok (.lcmp, 1) by decide +kernel),
    mm_r_eq1 X (show decode cX1_groups 9 = .ok (.ifCond .eq 35, 3) by decide +kernel) (by decide),
    mm_r_iload_n X (show decode cX1_groups 12 = .ok (.iload_n 3, 1) by decide +kernel) rfl,
    mm_r_bipush X (show decode cX1_groups 13 = .ok (.bipush 36, 2) by decide +kernel) rfl,
    mm_r_ge2 X (show decode cX1_groups 15 = .ok (.if_icmp .ge 29, 3) by decide +kernel) (by decide),
    mm_r_lload X (show decode cX1_groups 18 = .ok (.lload 4, 2) by decide +kernel),
    mm_r_aload_n X (show decode cX1_groups 20 = .ok (.aload_n 0, 1) by decide +kernel) rfl,
    mm_r_lload X (show decode cX1_groups 21 = .ok (.lload 4, 2) by decide +kernel),
    mm_r_lload X (show decode cX1_groups 23 = .ok (.lload 4, 2) by decide +kernel),
    mm_r_lneg X (show decode cX1_groups 25 = .ok (.lneg, 1) by decide +kernel),
    mm_r_land X (show decode cX1_groups 26 = .ok (.land, 1) by decide +kernel),
    mm_r_lload_n X (show decode cX1_groups 27 = .ok (.lload_n 1, 1) by decide +kernel) rfl,
    mm_r_clV X hth (ci := 1) (na := 2) (sn_X1_reach hl) rfl (show decode cX1_groups 28 = .ok (.invokevirtual 93, 3) by decide +kernel) mw_226 mw_223 mw_224 mw_225 mw_45 hd_X1_reach ⟨(Nat.le_of_ble_eq_true rfl), (Nat.le_of_ble_eq_true rfl)⟩,
    mm_r_ldc2 X (show decode cX1_groups 31 = .ok (.ldc2_w 91, 3) by decide +kernel) mw_233,
    mm_r_lxor X (show decode cX1_groups 34 = .ok (.lxor, 1) by decide +kernel),
    mm_r_land X (show decode cX1_groups 35 = .ok (.land, 1) by decide +kernel),
    mm_r_lstore X (show decode cX1_groups 36 = .ok (.lstore 4, 2) by decide +kernel) (Nat.le_of_ble_eq_true rfl),
    mm_r_iinc X (show decode cX1_groups 38 = .ok (.iinc 3 1, 3) by decide +kernel) rfl (Nat.le_of_ble_eq_true rfl),
    mm_r_goto X (show decode cX1_groups 41 = .ok (.goto (-36), 3) by decide +kernel) (by decide),
    mm_r_iload_n X (show decode cX1_groups 44 = .ok (.iload_n 3, 1) by decide +kernel) rfl,
    mm_r_iret X hret (show decode cX1_groups 45 = .ok (.ireturn, 1) by decide +kernel), trivial⟩
theorem sn_X1_groups {l : Launch} (hl : l.stackTraces = false) : mm_Snd l yX1_groups (.code yX1_groups cX1_groups 6 (some .int)) 3 73 f_X1_groups := mm_met hl (plainFor_of_name (by decide +kernel)) (ok_X1_groups hl)
/-! Linkcourt.told(I)I -/
noncomputable def tb_X10_told : List (Nat × mm_I) := [(0, mm_ldI 1 1), (1, mm_tsw 0 6 114 [44, 52, 60, 71, 79, 84, 99]), (44, mm_ldR 45 0), (45, mm_gfR 48 10 1), (48, mm_gfI 51 6 2), (51, mm_rtI), (52, mm_ldR 53 0), (53, mm_gfR 56 10 1), (56, mm_clV 59 6 0 f_X6_mover), (59, mm_rtI), (60, mm_ldR 61 0), (61, mm_gfR 64 10 1), (64, mm_clV 67 6 0 f_X6_empty), (67, mm_clS 70 1 f_J13_bitCount_95d88), (70, mm_rtI), (71, mm_ldR 72 0), (72, mm_gfR 75 10 1), (75, mm_gfI 78 6 6), (78, mm_rtI), (79, mm_ldR 80 0), (80, mm_clV 83 10 0 f_X10_winner), (83, mm_rtI), (84, mm_ldR 85 0), (85, mm_gfR 88 10 0), (88, mm_ldR 89 0), (89, mm_gfR 92 10 1), (92, mm_gfJ 95 6 4), (95, mm_clV 98 1 1 f_X1_groups), (98, mm_rtI), (99, mm_ldR 100 0), (100, mm_gfR 103 10 0), (103, mm_ldR 104 0), (104, mm_gfR 107 10 1), (107, mm_gfJ 110 6 5), (110, mm_clV 113 1 1 f_X1_groups), (113, mm_rtI), (114, mm_thr 2)]
noncomputable def f_X10_told : mm_F := mm_do (mm_pr tb_X10_told) 2
theorem mn_X10_told : mm_alln tb_X10_told := ⟨mm_n_ldI _ _, mm_n_tsw _ _ _ _, mm_n_ldR _ _, mm_n_gfR _ _ _, mm_n_gfI _ _ _, mm_n_rtI, mm_n_ldR _ _, mm_n_gfR _ _ _, mm_n_clV _ _ _ (mo_X6_mover), mm_n_rtI, mm_n_ldR _ _, mm_n_gfR _ _ _, mm_n_clV _ _ _ (mo_X6_empty), mm_n_clS _ _ (mo_J13_bitCount_95d88), mm_n_rtI, mm_n_ldR _ _, mm_n_gfR _ _ _, mm_n_gfI _ _ _, mm_n_rtI, mm_n_ldR _ _, mm_n_clV _ _ _ (mo_X10_winner), mm_n_rtI, mm_n_ldR _ _, mm_n_gfR _ _ _, mm_n_ldR _ _, mm_n_gfR _ _ _, mm_n_gfJ _ _ _, mm_n_clV _ _ _ (mo_X1_groups), mm_n_rtI, mm_n_ldR _ _, mm_n_gfR _ _ _, mm_n_ldR _ _, mm_n_gfR _ _ _, mm_n_gfJ _ _ _, mm_n_clV _ _ _ (mo_X1_groups), mm_n_rtI, mm_n_thr _, trivial⟩
theorem mo_X10_told : mm_Mo f_X10_told := mm_do_mo (mm_alln_mem mn_X10_told)
set_option maxRecDepth 10000 in
theorem ok_X10_told {l : Launch} (hl : l.stackTraces = false) : mm_Ok l yX10_told cX10_told 2 (some .int) 6 98 tb_X10_told := by
  refine ⟨mm_alln_mem mn_X10_told, fun p e cells slots s m args below meth c D tc A S ad Tg X hret hname htab hth => mm_allr_mem ?_⟩
  exact ⟨mm_r_iload_n X (show decode cX10_told 0 = .ok (.iload_n 1, 1) by decide +kernel) rfl,
    mm_r_tsw X (show decode cX10_told 1 = .ok (.tableswitch 113 0 6 #[43, 51, 59, 70, 78, 83, 98], 43) by decide +kernel) (by decide) (by decide) (by decide),
    mm_r_aload_n X (show decode cX10_told 44 = .ok (.aload_n 0, 1) by decide +kernel) rfl,
    mm_r_gfR X (ci := 10) (p := 1) (show mm_kd 10 1 = 2 by decide +kernel) rfl (Nat.le_of_ble_eq_true rfl) (show decode cX10_told 45 = .ok (.getfield 28, 3) by decide +kernel) mw_429 rfl,
    mm_r_gfI X (ci := 6) (p := 2) (show mm_kd 6 2 = 0 by decide +kernel) rfl (Nat.le_of_ble_eq_true rfl) (show decode cX10_told 48 = .ok (.getfield 144, 3) by decide +kernel) mw_171 rfl,
    mm_r_iret X hret (show decode cX10_told 51 = .ok (.ireturn, 1) by decide +kernel),
    mm_r_aload_n X (show decode cX10_told 52 = .ok (.aload_n 0, 1) by decide +kernel) rfl,
    mm_r_gfR X (ci := 10) (p := 1) (show mm_kd 10 1 = 2 by decide +kernel) rfl (Nat.le_of_ble_eq_true rfl) (show decode cX10_told 53 = .ok (.getfield 28, 3) by decide +kernel) mw_429 rfl,
    mm_r_clV X hth (ci := 6) (na := 0) (sn_X6_mover hl) rfl (show decode cX10_told 56 = .ok (.invokevirtual 134, 3) by decide +kernel) mw_479 mw_476 mw_477 mw_478 mw_46 hd_X6_mover ⟨(Nat.le_of_ble_eq_true rfl), (Nat.le_of_ble_eq_true rfl)⟩,
    mm_r_iret X hret (show decode cX10_told 59 = .ok (.ireturn, 1) by decide +kernel),
    mm_r_aload_n X (show decode cX10_told 60 = .ok (.aload_n 0, 1) by decide +kernel) rfl,
    mm_r_gfR X (ci := 10) (p := 1) (show mm_kd 10 1 = 2 by decide +kernel) rfl (Nat.le_of_ble_eq_true rfl) (show decode cX10_told 61 = .ok (.getfield 28, 3) by decide +kernel) mw_429 rfl,
    mm_r_clV X hth (ci := 6) (na := 0) (sn_X6_empty hl) rfl (show decode cX10_told 64 = .ok (.invokevirtual 115, 3) by decide +kernel) mw_483 mw_480 mw_481 mw_482 mw_46 hd_X6_empty ⟨(Nat.le_of_ble_eq_true rfl), (Nat.le_of_ble_eq_true rfl)⟩,
    mm_r_clS X hth (na := 1) (sn_J13_bitCount_95d88 hl) (show decode cX10_told 67 = .ok (.invokestatic 160, 3) by decide +kernel) mw_229 mw_485 mw_228 mw_47 hd_J13_bitCount_95d88.2 ⟨(Nat.le_of_ble_eq_true rfl), (Nat.le_of_ble_eq_true rfl)⟩,
    mm_r_iret X hret (show decode cX10_told 70 = .ok (.ireturn, 1) by decide +kernel),
    mm_r_aload_n X (show decode cX10_told 71 = .ok (.aload_n 0, 1) by decide +kernel) rfl,
    mm_r_gfR X (ci := 10) (p := 1) (show mm_kd 10 1 = 2 by decide +kernel) rfl (Nat.le_of_ble_eq_true rfl) (show decode cX10_told 72 = .ok (.getfield 28, 3) by decide +kernel) mw_429 rfl,
    mm_r_gfI X (ci := 6) (p := 6) (show mm_kd 6 6 = 0 by decide +kernel) rfl (Nat.le_of_ble_eq_true rfl) (show decode cX10_told 75 = .ok (.getfield 166, 3) by decide +kernel) mw_179 rfl,
    mm_r_iret X hret (show decode cX10_told 78 = .ok (.ireturn, 1) by decide +kernel),
    mm_r_aload_n X (show decode cX10_told 79 = .ok (.aload_n 0, 1) by decide +kernel) rfl,
    mm_r_clV X hth (ci := 10) (na := 0) (sn_X10_winner hl) rfl (show decode cX10_told 80 = .ok (.invokevirtual 125, 3) by decide +kernel) mw_489 mw_486 mw_488 mw_9 mw_44 hd_X10_winner ⟨(Nat.le_of_ble_eq_true rfl), (Nat.le_of_ble_eq_true rfl)⟩,
    mm_r_iret X hret (show decode cX10_told 83 = .ok (.ireturn, 1) by decide +kernel),
    mm_r_aload_n X (show decode cX10_told 84 = .ok (.aload_n 0, 1) by decide +kernel) rfl,
    mm_r_gfR X (ci := 10) (p := 0) (show mm_kd 10 0 = 2 by decide +kernel) rfl (Nat.le_of_ble_eq_true rfl) (show decode cX10_told 85 = .ok (.getfield 24, 3) by decide +kernel) mw_428 rfl,
    mm_r_aload_n X (show decode cX10_told 88 = .ok (.aload_n 0, 1) by decide +kernel) rfl,
    mm_r_gfR X (ci := 10) (p := 1) (show mm_kd 10 1 = 2 by decide +kernel) rfl (Nat.le_of_ble_eq_true rfl) (show decode cX10_told 89 = .ok (.getfield 28, 3) by decide +kernel) mw_429 rfl,
    mm_r_gfJ X (ci := 6) (p := 4) (show mm_kd 6 4 = 1 by decide +kernel) rfl (Nat.le_of_ble_eq_true rfl) (show decode cX10_told 92 = .ok (.getfield 169, 3) by decide +kernel) mw_175 rfl,
    mm_r_clV X hth (ci := 1) (na := 1) (sn_X1_groups hl) rfl (show decode cX10_told 95 = .ok (.invokevirtual 173, 3) by decide +kernel) mw_493 mw_490 mw_491 mw_492 mw_45 hd_X1_groups ⟨(Nat.le_of_ble_eq_true rfl), (Nat.le_of_ble_eq_true rfl)⟩,
    mm_r_iret X hret (show decode cX10_told 98 = .ok (.ireturn, 1) by decide +kernel),
    mm_r_aload_n X (show decode cX10_told 99 = .ok (.aload_n 0, 1) by decide +kernel) rfl,
    mm_r_gfR X (ci := 10) (p := 0) (show mm_kd 10 0 = 2 by decide +kernel) rfl (Nat.le_of_ble_eq_true rfl) (show decode cX10_told 100 = .ok (.getfield 24, 3) by decide +kernel) mw_428 rfl,
    mm_r_aload_n X (show decode cX10_told 103 = .ok (.aload_n 0, 1) by decide +kernel) rfl,
    mm_r_gfR X (ci := 10) (p := 1) (show mm_kd 10 1 = 2 by decide +kernel) rfl (Nat.le_of_ble_eq_true rfl) (show decode cX10_told 104 = .ok (.getfield 28, 3) by decide +kernel) mw_429 rfl,
    mm_r_gfJ X (ci := 6) (p := 5) (show mm_kd 6 5 = 1 by decide +kernel) rfl (Nat.le_of_ble_eq_true rfl) (show decode cX10_told 107 = .ok (.getfield 176, 3) by decide +kernel) mw_177 rfl,
    mm_r_clV X hth (ci := 1) (na := 1) (sn_X1_groups hl) rfl (show decode cX10_told 110 = .ok (.invokevirtual 173, 3) by decide +kernel) mw_493 mw_490 mw_491 mw_492 mw_45 hd_X1_groups ⟨(Nat.le_of_ble_eq_true rfl), (Nat.le_of_ble_eq_true rfl)⟩,
    mm_r_iret X hret (show decode cX10_told 113 = .ok (.ireturn, 1) by decide +kernel),
    mm_r_thr X htab (E := 2) (ik := 85) (is := 179) (ic := 89) (text := "what is out of range") (by decide) rfl mm_aw2 mw_494 mw_59 (by decide +kernel) (show decode cX10_told 114 = .ok (.new 85, 3) by decide +kernel) (show decode cX10_told 117 = .ok (.dup, 1) by decide +kernel) (show decode cX10_told 118 = .ok (.ldc 179, 2) by decide +kernel) (show decode cX10_told 120 = .ok (.invokespecial 89, 3) by decide +kernel) (show decode cX10_told 123 = .ok (.athrow, 1) by decide +kernel) (Nat.le_of_ble_eq_true rfl) (Nat.le_of_ble_eq_true rfl), trivial⟩
theorem sn_X10_told {l : Launch} (hl : l.stackTraces = false) : mm_Snd l yX10_told (.code yX10_told cX10_told 2 (some .int)) 6 98 f_X10_told := mm_met hl (plainFor_of_name (by decide +kernel)) (ok_X10_told hl)
/-! Linkcourt$Play.owner(I)I -/
noncomputable def tb_X6_owner : List (Nat × mm_I) := [(0, mm_ldR 1 0), (1, mm_gfJ 4 6 4), (4, mm_ldI 5 1), (5, mm_clS 8 2 f_X10_has), (8, mm_eq1 15 11), (11, mm_k 12 (.int 0)), (12, mm_go 31), (15, mm_ldR 16 0), (16, mm_gfJ 19 6 5), (19, mm_ldI 20 1), (20, mm_clS 23 2 f_X10_has), (23, mm_eq1 30 26), (26, mm_k 27 (.int 1)), (27, mm_go 31), (30, mm_k 31 (.int (-1))), (31, mm_rtI)]
noncomputable def f_X6_owner : mm_F := mm_do (mm_pr tb_X6_owner) 2
theorem mn_X6_owner : mm_alln tb_X6_owner := ⟨mm_n_ldR _ _, mm_n_gfJ _ _ _, mm_n_ldI _ _, mm_n_clS _ _ (mo_X10_has), mm_n_eq1 _ _, mm_n_k _ _, mm_n_go _, mm_n_ldR _ _, mm_n_gfJ _ _ _, mm_n_ldI _ _, mm_n_clS _ _ (mo_X10_has), mm_n_eq1 _ _, mm_n_k _ _, mm_n_go _, mm_n_k _ _, mm_n_rtI, trivial⟩
theorem mo_X6_owner : mm_Mo f_X6_owner := mm_do_mo (mm_alln_mem mn_X6_owner)
set_option maxRecDepth 10000 in
theorem ok_X6_owner {l : Launch} (hl : l.stackTraces = false) : mm_Ok l yX6_owner cX6_owner 2 (some .int) 2 42 tb_X6_owner := by
  refine ⟨mm_alln_mem mn_X6_owner, fun p e cells slots s m args below meth c D tc A S ad Tg X hret hname htab hth => mm_allr_mem ?_⟩
  exact ⟨mm_r_aload_n X (show decode cX6_owner 0 = .ok (.aload_n 0, 1) by decide +kernel) rfl,
    mm_r_gfJ X (ci := 6) (p := 4) (show mm_kd 6 4 = 1 by decide +kernel) rfl (Nat.le_of_ble_eq_true rfl) (show decode cX6_owner 1 = .ok (.getfield 47, 3) by decide +kernel) mw_174 rfl,
    mm_r_iload_n X (show decode cX6_owner 4 = .ok (.iload_n 1, 1) by decide +kernel) rfl,
    mm_r_clSN X hth (na := 2) (sn_X10_has hl) (show decode cX6_owner 5 = .ok (.invokestatic 66, 3) by decide +kernel) mw_593 (show ("Linkcourt$Play", 66, yX10_has) ∈ mm_nest by decide +kernel) mw_592 mw_44 hd_X10_has.2 ⟨(Nat.le_of_ble_eq_true rfl), (Nat.le_of_ble_eq_true rfl)⟩,
    mm_r_eq1 X (show decode cX6_owner 8 = .ok (.ifCond .eq 7, 3) by decide +kernel) (by decide),
    mm_r_iconst X (show decode cX6_owner 11 = .ok (.iconst 0, 1) by decide +kernel) rfl,
    mm_r_goto X (show decode cX6_owner 12 = .ok (.goto 19, 3) by decide +kernel) (by decide),
    mm_r_aload_n X (show decode cX6_owner 15 = .ok (.aload_n 0, 1) by decide +kernel) rfl,
    mm_r_gfJ X (ci := 6) (p := 5) (show mm_kd 6 5 = 1 by decide +kernel) rfl (Nat.le_of_ble_eq_true rfl) (show decode cX6_owner 16 = .ok (.getfield 51, 3) by decide +kernel) mw_176 rfl,
    mm_r_iload_n X (show decode cX6_owner 19 = .ok (.iload_n 1, 1) by decide +kernel) rfl,
    mm_r_clSN X hth (na := 2) (sn_X10_has hl) (show decode cX6_owner 20 = .ok (.invokestatic 66, 3) by decide +kernel) mw_593 (show ("Linkcourt$Play", 66, yX10_has) ∈ mm_nest by decide +kernel) mw_592 mw_44 hd_X10_has.2 ⟨(Nat.le_of_ble_eq_true rfl), (Nat.le_of_ble_eq_true rfl)⟩,
    mm_r_eq1 X (show decode cX6_owner 23 = .ok (.ifCond .eq 7, 3) by decide +kernel) (by decide),
    mm_r_iconst X (show decode cX6_owner 26 = .ok (.iconst 1, 1) by decide +kernel) rfl,
    mm_r_goto X (show decode cX6_owner 27 = .ok (.goto 4, 3) by decide +kernel) (by decide),
    mm_r_iconst X (show decode cX6_owner 30 = .ok (.iconst (-1), 1) by decide +kernel) rfl,
    mm_r_iret X hret (show decode cX6_owner 31 = .ok (.ireturn, 1) by decide +kernel), trivial⟩
theorem sn_X6_owner {l : Launch} (hl : l.stackTraces = false) : mm_Snd l yX6_owner (.code yX6_owner cX6_owner 2 (some .int)) 2 42 f_X6_owner := mm_met hl (plainFor_of_name (by decide +kernel)) (ok_X6_owner hl)
/-! Linkcourt$Play.numberOf(I)I -/
noncomputable def tb_X6_numberOf : List (Nat × mm_I) := [(0, mm_ldR 1 0), (1, mm_ldR 2 0), (2, mm_gfI 5 6 2), (5, mm_clV 8 6 1 f_X6_firstKept), (8, mm_stI 9 2), (9, mm_ldI 10 2), (10, mm_ldR 11 0), (11, mm_gfI 14 6 2), (14, mm_ge2 44 17), (17, mm_ldI 18 2), (18, mm_ldR 19 0), (19, mm_gfR 22 6 1), (22, mm_aln 23 0), (23, mm_ge2 44 26), (26, mm_ldR 27 0), (27, mm_gfR 30 6 1), (30, mm_ldI 31 2), (31, mm_ald 32 0), (32, mm_ldI 33 1), (33, mm_ne2 38 36), (36, mm_ldI 37 2), (37, mm_rtI), (38, mm_inc 41 2 1), (41, mm_go 9), (44, mm_k 45 (.int (-1))), (45, mm_rtI)]
noncomputable def f_X6_numberOf : mm_F := mm_do (mm_pr tb_X6_numberOf) 3
theorem mn_X6_numberOf : mm_alln tb_X6_numberOf := ⟨mm_n_ldR _ _, mm_n_ldR _ _, mm_n_gfI _ _ _, mm_n_clV _ _ _ (mo_X6_firstKept), mm_n_stI _ _, mm_n_ldI _ _, mm_n_ldR _ _, mm_n_gfI _ _ _, mm_n_ge2 _ _, mm_n_ldI _ _, mm_n_ldR _ _, mm_n_gfR _ _ _, mm_n_aln _ _, mm_n_ge2 _ _, mm_n_ldR _ _, mm_n_gfR _ _ _, mm_n_ldI _ _, mm_n_ald _ _, mm_n_ldI _ _, mm_n_ne2 _ _, mm_n_ldI _ _, mm_n_rtI, mm_n_inc _ _ _, mm_n_go _, mm_n_k _ _, mm_n_rtI, trivial⟩
theorem mo_X6_numberOf : mm_Mo f_X6_numberOf := mm_do_mo (mm_alln_mem mn_X6_numberOf)
set_option maxRecDepth 10000 in
theorem ok_X6_numberOf {l : Launch} (hl : l.stackTraces = false) : mm_Ok l yX6_numberOf cX6_numberOf 3 (some .int) 2 41 tb_X6_numberOf := by
  refine ⟨mm_alln_mem mn_X6_numberOf, fun p e cells slots s m args below meth c D tc A S ad Tg X hret hname htab hth => mm_allr_mem ?_⟩
  exact ⟨mm_r_aload_n X (show decode cX6_numberOf 0 = .ok (.aload_n 0, 1) by decide +kernel) rfl,
    mm_r_aload_n X (show decode cX6_numberOf 1 = .ok (.aload_n 0, 1) by decide +kernel) rfl,
    mm_r_gfI X (ci := 6) (p := 2) (show mm_kd 6 2 = 0 by decide +kernel) rfl (Nat.le_of_ble_eq_true rfl) (show decode cX6_numberOf 2 = .ok (.getfield 23, 3) by decide +kernel) mw_170 rfl,
    mm_r_clV X hth (ci := 6) (na := 1) (sn_X6_firstKept hl) rfl (show decode cX6_numberOf 5 = .ok (.invokevirtual 58, 3) by decide +kernel) mw_210 mw_207 mw_209 mw_6 mw_46 hd_X6_firstKept ⟨(Nat.le_of_ble_eq_true rfl), (Nat.le_of_ble_eq_true rfl)⟩,
    mm_r_istore_n X (show decode cX6_numberOf 8 = .ok (.istore_n 2, 1) by decide +kernel) rfl (Nat.le_of_ble_eq_true rfl),
    mm_r_iload_n X (show decode cX6_numberOf 9 = .ok (.iload_n 2, 1) by decide +kernel) rfl,
    mm_r_aload_n X (show decode cX6_numberOf 10 = .ok (.aload_n 0, 1) by decide +kernel) rfl,
    mm_r_gfI X (ci := 6) (p := 2) (show mm_kd 6 2 = 0 by decide +kernel) rfl (Nat.le_of_ble_eq_true rfl) (show decode cX6_numberOf 11 = .ok (.getfield 23, 3) by decide +kernel) mw_170 rfl,
    mm_r_ge2 X (show decode cX6_numberOf 14 = .ok (.if_icmp .ge 30, 3) by decide +kernel) (by decide),
    mm_r_iload_n X (show decode cX6_numberOf 17 = .ok (.iload_n 2, 1) by decide +kernel) rfl,
    mm_r_aload_n X (show decode cX6_numberOf 18 = .ok (.aload_n 0, 1) by decide +kernel) rfl,
    mm_r_gfR X (ci := 6) (p := 1) (show mm_kd 6 1 = 2 by decide +kernel) rfl (Nat.le_of_ble_eq_true rfl) (show decode cX6_numberOf 19 = .ok (.getfield 9, 3) by decide +kernel) mw_169 rfl,
    mm_r_aln X (t := 0) (Nat.le_of_ble_eq_true rfl) (show decode cX6_numberOf 22 = .ok (.arraylength, 1) by decide +kernel),
    mm_r_ge2 X (show decode cX6_numberOf 23 = .ok (.if_icmp .ge 21, 3) by decide +kernel) (by decide),
    mm_r_aload_n X (show decode cX6_numberOf 26 = .ok (.aload_n 0, 1) by decide +kernel) rfl,
    mm_r_gfR X (ci := 6) (p := 1) (show mm_kd 6 1 = 2 by decide +kernel) rfl (Nat.le_of_ble_eq_true rfl) (show decode cX6_numberOf 27 = .ok (.getfield 9, 3) by decide +kernel) mw_169 rfl,
    mm_r_iload_n X (show decode cX6_numberOf 30 = .ok (.iload_n 2, 1) by decide +kernel) rfl,
    mm_r_iald X (show decode cX6_numberOf 31 = .ok (.iaload, 1) by decide +kernel),
    mm_r_iload_n X (show decode cX6_numberOf 32 = .ok (.iload_n 1, 1) by decide +kernel) rfl,
    mm_r_ne2 X (show decode cX6_numberOf 33 = .ok (.if_icmp .ne 5, 3) by decide +kernel) (by decide),
    mm_r_iload_n X (show decode cX6_numberOf 36 = .ok (.iload_n 2, 1) by decide +kernel) rfl,
    mm_r_iret X hret (show decode cX6_numberOf 37 = .ok (.ireturn, 1) by decide +kernel),
    mm_r_iinc X (show decode cX6_numberOf 38 = .ok (.iinc 2 1, 3) by decide +kernel) rfl (Nat.le_of_ble_eq_true rfl),
    mm_r_goto X (show decode cX6_numberOf 41 = .ok (.goto (-32), 3) by decide +kernel) (by decide),
    mm_r_iconst X (show decode cX6_numberOf 44 = .ok (.iconst (-1), 1) by decide +kernel) rfl,
    mm_r_iret X hret (show decode cX6_numberOf 45 = .ok (.ireturn, 1) by decide +kernel), trivial⟩
theorem sn_X6_numberOf {l : Launch} (hl : l.stackTraces = false) : mm_Snd l yX6_numberOf (.code yX6_numberOf cX6_numberOf 3 (some .int)) 2 41 f_X6_numberOf := mm_met hl (plainFor_of_name (by decide +kernel)) (ok_X6_numberOf hl)
/-! Linkcourt$Play.stones(I)J -/
noncomputable def tb_X6_stones : List (Nat × mm_I) := [(0, mm_ldI 1 1), (1, mm_ne1 11 4), (4, mm_ldR 5 0), (5, mm_gfJ 8 6 4), (8, mm_go 15), (11, mm_ldR 12 0), (12, mm_gfJ 15 6 5), (15, mm_rtJ)]
noncomputable def f_X6_stones : mm_F := mm_do (mm_pr tb_X6_stones) 2
theorem mn_X6_stones : mm_alln tb_X6_stones := ⟨mm_n_ldI _ _, mm_n_ne1 _ _, mm_n_ldR _ _, mm_n_gfJ _ _ _, mm_n_go _, mm_n_ldR _ _, mm_n_gfJ _ _ _, mm_n_rtJ, trivial⟩
theorem mo_X6_stones : mm_Mo f_X6_stones := mm_do_mo (mm_alln_mem mn_X6_stones)
set_option maxRecDepth 10000 in
theorem ok_X6_stones {l : Launch} (hl : l.stackTraces = false) : mm_Ok l yX6_stones cX6_stones 2 (some .long) 1 20 tb_X6_stones := by
  refine ⟨mm_alln_mem mn_X6_stones, fun p e cells slots s m args below meth c D tc A S ad Tg X hret hname htab hth => mm_allr_mem ?_⟩
  exact ⟨mm_r_iload_n X (show decode cX6_stones 0 = .ok (.iload_n 1, 1) by decide +kernel) rfl,
    mm_r_ne1 X (show decode cX6_stones 1 = .ok (.ifCond .ne 10, 3) by decide +kernel) (by decide),
    mm_r_aload_n X (show decode cX6_stones 4 = .ok (.aload_n 0, 1) by decide +kernel) rfl,
    mm_r_gfJ X (ci := 6) (p := 4) (show mm_kd 6 4 = 1 by decide +kernel) rfl (Nat.le_of_ble_eq_true rfl) (show decode cX6_stones 5 = .ok (.getfield 47, 3) by decide +kernel) mw_174 rfl,
    mm_r_goto X (show decode cX6_stones 8 = .ok (.goto 7, 3) by decide +kernel) (by decide),
    mm_r_aload_n X (show decode cX6_stones 11 = .ok (.aload_n 0, 1) by decide +kernel) rfl,
    mm_r_gfJ X (ci := 6) (p := 5) (show mm_kd 6 5 = 1 by decide +kernel) rfl (Nat.le_of_ble_eq_true rfl) (show decode cX6_stones 12 = .ok (.getfield 51, 3) by decide +kernel) mw_176 rfl,
    mm_r_lret X hret (show decode cX6_stones 15 = .ok (.lreturn, 1) by decide +kernel), trivial⟩
theorem sn_X6_stones {l : Launch} (hl : l.stackTraces = false) : mm_Snd l yX6_stones (.code yX6_stones cX6_stones 2 (some .long)) 1 20 f_X6_stones := mm_met hl (plainFor_of_name (by decide +kernel)) (ok_X6_stones hl)
