/-! the law's wrappers: what they answer, when the call answers or throws: by program (wip/p32/gen/gencall.py) -/
section
variable (e : Nat) (I : Nat → Nat → Int32) (J : Nat → Nat → Int64) (A : Nat → Nat → Int32) (B : Nat → Nat → Int64)
theorem pc_L_does_0 : (if ((0 : Int32)).toInt < 0 ∨ 20 < ((0 : Int32)).toInt then 243 else ([100, 109, 115, 120, 125, 131, 138, 145, 150, 155, 166, 180, 186, 193, 198, 203, 208, 218, 224, 231, 236] : List Nat).getD (((0 : Int32)).toInt - 0).toNat 243) = 100 := by decide +kernel
theorem wl_game (x2 : Int32) (x3 : Int32) (x4 : Int32) (x5 : Int32) {v : Int32} {e' : Nat} {I' : Nat → Nat → Int32} {J' : Nat → Nat → Int64} {A' : Nat → Nat → Int32} {B' : Nat → Nat → Int64} (h : f_X10_game [.ref 0, .int x2, .int x3, .int x4] (79, e, mm_R0, I, J, A, B) = some (.inl (some (.int v)), (79, e', mm_R0, I', J', A', B'))) : f_L_call [.ref 0, .int (0 : Int32), .int x2, .int x3, .int x4, .int x5] (79, e, mm_R0, I, J, A, B) = some (.inl (some (.int v)), (79, e', mm_R0, I', J', A', B')) := by
  rw [en_L_call, sg_L_call_0, en_L_does, sg_L_does_0, pc_L_does_0, sg_L_does_100, h]
  show mm_aftC _ _ _ _ _ (mm_run (mm_pr tb_L_does) (108, _, [.int v], _)) = _
  rw [sg_L_does_108]
  show mm_run (mm_pr tb_L_call) (11, _, [.int v], _) = _
  rw [sg_L_call_11]
theorem wx_game_1 (x2 : Int32) (x3 : Int32) (x4 : Int32) (x5 : Int32) {e' : Nat} {I' : Nat → Nat → Int32} {J' : Nat → Nat → Int64} {A' : Nat → Nat → Int32} {B' : Nat → Nat → Int64} (h : f_X10_game [.ref 0, .int x2, .int x3, .int x4] (79, e, mm_R0, I, J, A, B) = some (.inr 1, (79, e', mm_R0, I', J', A', B'))) : f_L_call [.ref 0, .int (0 : Int32), .int x2, .int x3, .int x4, .int x5] (79, e, mm_R0, I, J, A, B) = some (.inl (some (.int (-2000000001 : Int32))), (79, e', mm_R0, I', J', A', B')) := by
  rw [en_L_call, sg_L_call_0, en_L_does, sg_L_does_0, pc_L_does_0, sg_L_does_100, h]
  show mm_run (mm_pr tb_L_call) (14, [some (.ref 0), some (.int (0 : Int32)), some (.int x2), some (.int x3), some (.int x4), some (.int x5), none], [], _) = _
  rw [sg_L_call_14]
theorem wx_game_2 (x2 : Int32) (x3 : Int32) (x4 : Int32) (x5 : Int32) {e' : Nat} {I' : Nat → Nat → Int32} {J' : Nat → Nat → Int64} {A' : Nat → Nat → Int32} {B' : Nat → Nat → Int64} (h : f_X10_game [.ref 0, .int x2, .int x3, .int x4] (79, e, mm_R0, I, J, A, B) = some (.inr 2, (79, e', mm_R0, I', J', A', B'))) : f_L_call [.ref 0, .int (0 : Int32), .int x2, .int x3, .int x4, .int x5] (79, e, mm_R0, I, J, A, B) = some (.inl (some (.int (-2000000002 : Int32))), (79, e', mm_R0, I', J', A', B')) := by
  rw [en_L_call, sg_L_call_0, en_L_does, sg_L_does_0, pc_L_does_0, sg_L_does_100, h]
  show mm_run (mm_pr tb_L_call) (19, [some (.ref 0), some (.int (0 : Int32)), some (.int x2), some (.int x3), some (.int x4), some (.int x5), none], [], _) = _
  rw [sg_L_call_19]
theorem wx_game_3 (x2 : Int32) (x3 : Int32) (x4 : Int32) (x5 : Int32) {e' : Nat} {I' : Nat → Nat → Int32} {J' : Nat → Nat → Int64} {A' : Nat → Nat → Int32} {B' : Nat → Nat → Int64} (h : f_X10_game [.ref 0, .int x2, .int x3, .int x4] (79, e, mm_R0, I, J, A, B) = some (.inr 3, (79, e', mm_R0, I', J', A', B'))) : f_L_call [.ref 0, .int (0 : Int32), .int x2, .int x3, .int x4, .int x5] (79, e, mm_R0, I, J, A, B) = some (.inl (some (.int (-2000000003 : Int32))), (79, e', mm_R0, I', J', A', B')) := by
  rw [en_L_call, sg_L_call_0, en_L_does, sg_L_does_0, pc_L_does_0, sg_L_does_100, h]
  show mm_run (mm_pr tb_L_call) (24, [some (.ref 0), some (.int (0 : Int32)), some (.int x2), some (.int x3), some (.int x4), some (.int x5), none], [], _) = _
  rw [sg_L_call_24]
theorem pc_L_does_1 : (if ((1 : Int32)).toInt < 0 ∨ 20 < ((1 : Int32)).toInt then 243 else ([100, 109, 115, 120, 125, 131, 138, 145, 150, 155, 166, 180, 186, 193, 198, 203, 208, 218, 224, 231, 236] : List Nat).getD (((1 : Int32)).toInt - 0).toNat 243) = 109 := by decide +kernel
theorem wl_move (x2 : Int32) (x3 : Int32) (x4 : Int32) (x5 : Int32) {v : Int32} {e' : Nat} {I' : Nat → Nat → Int32} {J' : Nat → Nat → Int64} {A' : Nat → Nat → Int32} {B' : Nat → Nat → Int64} (h : f_X10_move [.ref 0, .int x2] (79, e, mm_R0, I, J, A, B) = some (.inl (some (.int v)), (79, e', mm_R0, I', J', A', B'))) : f_L_call [.ref 0, .int (1 : Int32), .int x2, .int x3, .int x4, .int x5] (79, e, mm_R0, I, J, A, B) = some (.inl (some (.int v)), (79, e', mm_R0, I', J', A', B')) := by
  rw [en_L_call, sg_L_call_0, en_L_does, sg_L_does_0, pc_L_does_1, sg_L_does_109, h]
  show mm_aftC _ _ _ _ _ (mm_run (mm_pr tb_L_does) (114, _, [.int v], _)) = _
  rw [sg_L_does_114]
  show mm_run (mm_pr tb_L_call) (11, _, [.int v], _) = _
  rw [sg_L_call_11]
theorem wx_move_1 (x2 : Int32) (x3 : Int32) (x4 : Int32) (x5 : Int32) {e' : Nat} {I' : Nat → Nat → Int32} {J' : Nat → Nat → Int64} {A' : Nat → Nat → Int32} {B' : Nat → Nat → Int64} (h : f_X10_move [.ref 0, .int x2] (79, e, mm_R0, I, J, A, B) = some (.inr 1, (79, e', mm_R0, I', J', A', B'))) : f_L_call [.ref 0, .int (1 : Int32), .int x2, .int x3, .int x4, .int x5] (79, e, mm_R0, I, J, A, B) = some (.inl (some (.int (-2000000001 : Int32))), (79, e', mm_R0, I', J', A', B')) := by
  rw [en_L_call, sg_L_call_0, en_L_does, sg_L_does_0, pc_L_does_1, sg_L_does_109, h]
  show mm_run (mm_pr tb_L_call) (14, [some (.ref 0), some (.int (1 : Int32)), some (.int x2), some (.int x3), some (.int x4), some (.int x5), none], [], _) = _
  rw [sg_L_call_14]
theorem wx_move_2 (x2 : Int32) (x3 : Int32) (x4 : Int32) (x5 : Int32) {e' : Nat} {I' : Nat → Nat → Int32} {J' : Nat → Nat → Int64} {A' : Nat → Nat → Int32} {B' : Nat → Nat → Int64} (h : f_X10_move [.ref 0, .int x2] (79, e, mm_R0, I, J, A, B) = some (.inr 2, (79, e', mm_R0, I', J', A', B'))) : f_L_call [.ref 0, .int (1 : Int32), .int x2, .int x3, .int x4, .int x5] (79, e, mm_R0, I, J, A, B) = some (.inl (some (.int (-2000000002 : Int32))), (79, e', mm_R0, I', J', A', B')) := by
  rw [en_L_call, sg_L_call_0, en_L_does, sg_L_does_0, pc_L_does_1, sg_L_does_109, h]
  show mm_run (mm_pr tb_L_call) (19, [some (.ref 0), some (.int (1 : Int32)), some (.int x2), some (.int x3), some (.int x4), some (.int x5), none], [], _) = _
  rw [sg_L_call_19]
theorem wx_move_3 (x2 : Int32) (x3 : Int32) (x4 : Int32) (x5 : Int32) {e' : Nat} {I' : Nat → Nat → Int32} {J' : Nat → Nat → Int64} {A' : Nat → Nat → Int32} {B' : Nat → Nat → Int64} (h : f_X10_move [.ref 0, .int x2] (79, e, mm_R0, I, J, A, B) = some (.inr 3, (79, e', mm_R0, I', J', A', B'))) : f_L_call [.ref 0, .int (1 : Int32), .int x2, .int x3, .int x4, .int x5] (79, e, mm_R0, I, J, A, B) = some (.inl (some (.int (-2000000003 : Int32))), (79, e', mm_R0, I', J', A', B')) := by
  rw [en_L_call, sg_L_call_0, en_L_does, sg_L_does_0, pc_L_does_1, sg_L_does_109, h]
  show mm_run (mm_pr tb_L_call) (24, [some (.ref 0), some (.int (1 : Int32)), some (.int x2), some (.int x3), some (.int x4), some (.int x5), none], [], _) = _
  rw [sg_L_call_24]
theorem pc_L_does_2 : (if ((2 : Int32)).toInt < 0 ∨ 20 < ((2 : Int32)).toInt then 243 else ([100, 109, 115, 120, 125, 131, 138, 145, 150, 155, 166, 180, 186, 193, 198, 203, 208, 218, 224, 231, 236] : List Nat).getD (((2 : Int32)).toInt - 0).toNat 243) = 115 := by decide +kernel
theorem wl_swap (x2 : Int32) (x3 : Int32) (x4 : Int32) (x5 : Int32) {v : Int32} {e' : Nat} {I' : Nat → Nat → Int32} {J' : Nat → Nat → Int64} {A' : Nat → Nat → Int32} {B' : Nat → Nat → Int64} (h : f_X10_swap [.ref 0] (79, e, mm_R0, I, J, A, B) = some (.inl (some (.int v)), (79, e', mm_R0, I', J', A', B'))) : f_L_call [.ref 0, .int (2 : Int32), .int x2, .int x3, .int x4, .int x5] (79, e, mm_R0, I, J, A, B) = some (.inl (some (.int v)), (79, e', mm_R0, I', J', A', B')) := by
  rw [en_L_call, sg_L_call_0, en_L_does, sg_L_does_0, pc_L_does_2, sg_L_does_115, h]
  show mm_aftC _ _ _ _ _ (mm_run (mm_pr tb_L_does) (119, _, [.int v], _)) = _
  rw [sg_L_does_119]
  show mm_run (mm_pr tb_L_call) (11, _, [.int v], _) = _
  rw [sg_L_call_11]
theorem wx_swap_1 (x2 : Int32) (x3 : Int32) (x4 : Int32) (x5 : Int32) {e' : Nat} {I' : Nat → Nat → Int32} {J' : Nat → Nat → Int64} {A' : Nat → Nat → Int32} {B' : Nat → Nat → Int64} (h : f_X10_swap [.ref 0] (79, e, mm_R0, I, J, A, B) = some (.inr 1, (79, e', mm_R0, I', J', A', B'))) : f_L_call [.ref 0, .int (2 : Int32), .int x2, .int x3, .int x4, .int x5] (79, e, mm_R0, I, J, A, B) = some (.inl (some (.int (-2000000001 : Int32))), (79, e', mm_R0, I', J', A', B')) := by
  rw [en_L_call, sg_L_call_0, en_L_does, sg_L_does_0, pc_L_does_2, sg_L_does_115, h]
  show mm_run (mm_pr tb_L_call) (14, [some (.ref 0), some (.int (2 : Int32)), some (.int x2), some (.int x3), some (.int x4), some (.int x5), none], [], _) = _
  rw [sg_L_call_14]
theorem wx_swap_2 (x2 : Int32) (x3 : Int32) (x4 : Int32) (x5 : Int32) {e' : Nat} {I' : Nat → Nat → Int32} {J' : Nat → Nat → Int64} {A' : Nat → Nat → Int32} {B' : Nat → Nat → Int64} (h : f_X10_swap [.ref 0] (79, e, mm_R0, I, J, A, B) = some (.inr 2, (79, e', mm_R0, I', J', A', B'))) : f_L_call [.ref 0, .int (2 : Int32), .int x2, .int x3, .int x4, .int x5] (79, e, mm_R0, I, J, A, B) = some (.inl (some (.int (-2000000002 : Int32))), (79, e', mm_R0, I', J', A', B')) := by
  rw [en_L_call, sg_L_call_0, en_L_does, sg_L_does_0, pc_L_does_2, sg_L_does_115, h]
  show mm_run (mm_pr tb_L_call) (19, [some (.ref 0), some (.int (2 : Int32)), some (.int x2), some (.int x3), some (.int x4), some (.int x5), none], [], _) = _
  rw [sg_L_call_19]
theorem wx_swap_3 (x2 : Int32) (x3 : Int32) (x4 : Int32) (x5 : Int32) {e' : Nat} {I' : Nat → Nat → Int32} {J' : Nat → Nat → Int64} {A' : Nat → Nat → Int32} {B' : Nat → Nat → Int64} (h : f_X10_swap [.ref 0] (79, e, mm_R0, I, J, A, B) = some (.inr 3, (79, e', mm_R0, I', J', A', B'))) : f_L_call [.ref 0, .int (2 : Int32), .int x2, .int x3, .int x4, .int x5] (79, e, mm_R0, I, J, A, B) = some (.inl (some (.int (-2000000003 : Int32))), (79, e', mm_R0, I', J', A', B')) := by
  rw [en_L_call, sg_L_call_0, en_L_does, sg_L_does_0, pc_L_does_2, sg_L_does_115, h]
  show mm_run (mm_pr tb_L_call) (24, [some (.ref 0), some (.int (2 : Int32)), some (.int x2), some (.int x3), some (.int x4), some (.int x5), none], [], _) = _
  rw [sg_L_call_24]
theorem pc_L_does_3 : (if ((3 : Int32)).toInt < 0 ∨ 20 < ((3 : Int32)).toInt then 243 else ([100, 109, 115, 120, 125, 131, 138, 145, 150, 155, 166, 180, 186, 193, 198, 203, 208, 218, 224, 231, 236] : List Nat).getD (((3 : Int32)).toInt - 0).toNat 243) = 120 := by decide +kernel
theorem wl_undo (x2 : Int32) (x3 : Int32) (x4 : Int32) (x5 : Int32) {v : Int32} {e' : Nat} {I' : Nat → Nat → Int32} {J' : Nat → Nat → Int64} {A' : Nat → Nat → Int32} {B' : Nat → Nat → Int64} (h : f_X10_undo [.ref 0] (79, e, mm_R0, I, J, A, B) = some (.inl (some (.int v)), (79, e', mm_R0, I', J', A', B'))) : f_L_call [.ref 0, .int (3 : Int32), .int x2, .int x3, .int x4, .int x5] (79, e, mm_R0, I, J, A, B) = some (.inl (some (.int v)), (79, e', mm_R0, I', J', A', B')) := by
  rw [en_L_call, sg_L_call_0, en_L_does, sg_L_does_0, pc_L_does_3, sg_L_does_120, h]
  show mm_aftC _ _ _ _ _ (mm_run (mm_pr tb_L_does) (124, _, [.int v], _)) = _
  rw [sg_L_does_124]
  show mm_run (mm_pr tb_L_call) (11, _, [.int v], _) = _
  rw [sg_L_call_11]
theorem wx_undo_1 (x2 : Int32) (x3 : Int32) (x4 : Int32) (x5 : Int32) {e' : Nat} {I' : Nat → Nat → Int32} {J' : Nat → Nat → Int64} {A' : Nat → Nat → Int32} {B' : Nat → Nat → Int64} (h : f_X10_undo [.ref 0] (79, e, mm_R0, I, J, A, B) = some (.inr 1, (79, e', mm_R0, I', J', A', B'))) : f_L_call [.ref 0, .int (3 : Int32), .int x2, .int x3, .int x4, .int x5] (79, e, mm_R0, I, J, A, B) = some (.inl (some (.int (-2000000001 : Int32))), (79, e', mm_R0, I', J', A', B')) := by
  rw [en_L_call, sg_L_call_0, en_L_does, sg_L_does_0, pc_L_does_3, sg_L_does_120, h]
  show mm_run (mm_pr tb_L_call) (14, [some (.ref 0), some (.int (3 : Int32)), some (.int x2), some (.int x3), some (.int x4), some (.int x5), none], [], _) = _
  rw [sg_L_call_14]
theorem wx_undo_2 (x2 : Int32) (x3 : Int32) (x4 : Int32) (x5 : Int32) {e' : Nat} {I' : Nat → Nat → Int32} {J' : Nat → Nat → Int64} {A' : Nat → Nat → Int32} {B' : Nat → Nat → Int64} (h : f_X10_undo [.ref 0] (79, e, mm_R0, I, J, A, B) = some (.inr 2, (79, e', mm_R0, I', J', A', B'))) : f_L_call [.ref 0, .int (3 : Int32), .int x2, .int x3, .int x4, .int x5] (79, e, mm_R0, I, J, A, B) = some (.inl (some (.int (-2000000002 : Int32))), (79, e', mm_R0, I', J', A', B')) := by
  rw [en_L_call, sg_L_call_0, en_L_does, sg_L_does_0, pc_L_does_3, sg_L_does_120, h]
  show mm_run (mm_pr tb_L_call) (19, [some (.ref 0), some (.int (3 : Int32)), some (.int x2), some (.int x3), some (.int x4), some (.int x5), none], [], _) = _
  rw [sg_L_call_19]
theorem wx_undo_3 (x2 : Int32) (x3 : Int32) (x4 : Int32) (x5 : Int32) {e' : Nat} {I' : Nat → Nat → Int32} {J' : Nat → Nat → Int64} {A' : Nat → Nat → Int32} {B' : Nat → Nat → Int64} (h : f_X10_undo [.ref 0] (79, e, mm_R0, I, J, A, B) = some (.inr 3, (79, e', mm_R0, I', J', A', B'))) : f_L_call [.ref 0, .int (3 : Int32), .int x2, .int x3, .int x4, .int x5] (79, e, mm_R0, I, J, A, B) = some (.inl (some (.int (-2000000003 : Int32))), (79, e', mm_R0, I', J', A', B')) := by
  rw [en_L_call, sg_L_call_0, en_L_does, sg_L_does_0, pc_L_does_3, sg_L_does_120, h]
  show mm_run (mm_pr tb_L_call) (24, [some (.ref 0), some (.int (3 : Int32)), some (.int x2), some (.int x3), some (.int x4), some (.int x5), none], [], _) = _
  rw [sg_L_call_24]
theorem pc_L_does_4 : (if ((4 : Int32)).toInt < 0 ∨ 20 < ((4 : Int32)).toInt then 243 else ([100, 109, 115, 120, 125, 131, 138, 145, 150, 155, 166, 180, 186, 193, 198, 203, 208, 218, 224, 231, 236] : List Nat).getD (((4 : Int32)).toInt - 0).toNat 243) = 125 := by decide +kernel
theorem wl_told (x2 : Int32) (x3 : Int32) (x4 : Int32) (x5 : Int32) {v : Int32} {e' : Nat} {I' : Nat → Nat → Int32} {J' : Nat → Nat → Int64} {A' : Nat → Nat → Int32} {B' : Nat → Nat → Int64} (h : f_X10_told [.ref 0, .int x2] (79, e, mm_R0, I, J, A, B) = some (.inl (some (.int v)), (79, e', mm_R0, I', J', A', B'))) : f_L_call [.ref 0, .int (4 : Int32), .int x2, .int x3, .int x4, .int x5] (79, e, mm_R0, I, J, A, B) = some (.inl (some (.int v)), (79, e', mm_R0, I', J', A', B')) := by
  rw [en_L_call, sg_L_call_0, en_L_does, sg_L_does_0, pc_L_does_4, sg_L_does_125, h]
  show mm_aftC _ _ _ _ _ (mm_run (mm_pr tb_L_does) (130, _, [.int v], _)) = _
  rw [sg_L_does_130]
  show mm_run (mm_pr tb_L_call) (11, _, [.int v], _) = _
  rw [sg_L_call_11]
theorem wx_told_1 (x2 : Int32) (x3 : Int32) (x4 : Int32) (x5 : Int32) {e' : Nat} {I' : Nat → Nat → Int32} {J' : Nat → Nat → Int64} {A' : Nat → Nat → Int32} {B' : Nat → Nat → Int64} (h : f_X10_told [.ref 0, .int x2] (79, e, mm_R0, I, J, A, B) = some (.inr 1, (79, e', mm_R0, I', J', A', B'))) : f_L_call [.ref 0, .int (4 : Int32), .int x2, .int x3, .int x4, .int x5] (79, e, mm_R0, I, J, A, B) = some (.inl (some (.int (-2000000001 : Int32))), (79, e', mm_R0, I', J', A', B')) := by
  rw [en_L_call, sg_L_call_0, en_L_does, sg_L_does_0, pc_L_does_4, sg_L_does_125, h]
  show mm_run (mm_pr tb_L_call) (14, [some (.ref 0), some (.int (4 : Int32)), some (.int x2), some (.int x3), some (.int x4), some (.int x5), none], [], _) = _
  rw [sg_L_call_14]
theorem wx_told_2 (x2 : Int32) (x3 : Int32) (x4 : Int32) (x5 : Int32) {e' : Nat} {I' : Nat → Nat → Int32} {J' : Nat → Nat → Int64} {A' : Nat → Nat → Int32} {B' : Nat → Nat → Int64} (h : f_X10_told [.ref 0, .int x2] (79, e, mm_R0, I, J, A, B) = some (.inr 2, (79, e', mm_R0, I', J', A', B'))) : f_L_call [.ref 0, .int (4 : Int32), .int x2, .int x3, .int x4, .int x5] (79, e, mm_R0, I, J, A, B) = some (.inl (some (.int (-2000000002 : Int32))), (79, e', mm_R0, I', J', A', B')) := by
  rw [en_L_call, sg_L_call_0, en_L_does, sg_L_does_0, pc_L_does_4, sg_L_does_125, h]
  show mm_run (mm_pr tb_L_call) (19, [some (.ref 0), some (.int (4 : Int32)), some (.int x2), some (.int x3), some (.int x4), some (.int x5), none], [], _) = _
  rw [sg_L_call_19]
theorem wx_told_3 (x2 : Int32) (x3 : Int32) (x4 : Int32) (x5 : Int32) {e' : Nat} {I' : Nat → Nat → Int32} {J' : Nat → Nat → Int64} {A' : Nat → Nat → Int32} {B' : Nat → Nat → Int64} (h : f_X10_told [.ref 0, .int x2] (79, e, mm_R0, I, J, A, B) = some (.inr 3, (79, e', mm_R0, I', J', A', B'))) : f_L_call [.ref 0, .int (4 : Int32), .int x2, .int x3, .int x4, .int x5] (79, e, mm_R0, I, J, A, B) = some (.inl (some (.int (-2000000003 : Int32))), (79, e', mm_R0, I', J', A', B')) := by
  rw [en_L_call, sg_L_call_0, en_L_does, sg_L_does_0, pc_L_does_4, sg_L_does_125, h]
  show mm_run (mm_pr tb_L_call) (24, [some (.ref 0), some (.int (4 : Int32)), some (.int x2), some (.int x3), some (.int x4), some (.int x5), none], [], _) = _
  rw [sg_L_call_24]
theorem pc_L_does_5 : (if ((5 : Int32)).toInt < 0 ∨ 20 < ((5 : Int32)).toInt then 243 else ([100, 109, 115, 120, 125, 131, 138, 145, 150, 155, 166, 180, 186, 193, 198, 203, 208, 218, 224, 231, 236] : List Nat).getD (((5 : Int32)).toInt - 0).toNat 243) = 131 := by decide +kernel
theorem wl_cell (x2 : Int32) (x3 : Int32) (x4 : Int32) (x5 : Int32) {v : Int32} {e' : Nat} {I' : Nat → Nat → Int32} {J' : Nat → Nat → Int64} {A' : Nat → Nat → Int32} {B' : Nat → Nat → Int64} (h : f_X10_cell [.ref 0, .int x2, .int x3] (79, e, mm_R0, I, J, A, B) = some (.inl (some (.int v)), (79, e', mm_R0, I', J', A', B'))) : f_L_call [.ref 0, .int (5 : Int32), .int x2, .int x3, .int x4, .int x5] (79, e, mm_R0, I, J, A, B) = some (.inl (some (.int v)), (79, e', mm_R0, I', J', A', B')) := by
  rw [en_L_call, sg_L_call_0, en_L_does, sg_L_does_0, pc_L_does_5, sg_L_does_131, h]
  show mm_aftC _ _ _ _ _ (mm_run (mm_pr tb_L_does) (137, _, [.int v], _)) = _
  rw [sg_L_does_137]
  show mm_run (mm_pr tb_L_call) (11, _, [.int v], _) = _
  rw [sg_L_call_11]
theorem wx_cell_1 (x2 : Int32) (x3 : Int32) (x4 : Int32) (x5 : Int32) {e' : Nat} {I' : Nat → Nat → Int32} {J' : Nat → Nat → Int64} {A' : Nat → Nat → Int32} {B' : Nat → Nat → Int64} (h : f_X10_cell [.ref 0, .int x2, .int x3] (79, e, mm_R0, I, J, A, B) = some (.inr 1, (79, e', mm_R0, I', J', A', B'))) : f_L_call [.ref 0, .int (5 : Int32), .int x2, .int x3, .int x4, .int x5] (79, e, mm_R0, I, J, A, B) = some (.inl (some (.int (-2000000001 : Int32))), (79, e', mm_R0, I', J', A', B')) := by
  rw [en_L_call, sg_L_call_0, en_L_does, sg_L_does_0, pc_L_does_5, sg_L_does_131, h]
  show mm_run (mm_pr tb_L_call) (14, [some (.ref 0), some (.int (5 : Int32)), some (.int x2), some (.int x3), some (.int x4), some (.int x5), none], [], _) = _
  rw [sg_L_call_14]
theorem wx_cell_2 (x2 : Int32) (x3 : Int32) (x4 : Int32) (x5 : Int32) {e' : Nat} {I' : Nat → Nat → Int32} {J' : Nat → Nat → Int64} {A' : Nat → Nat → Int32} {B' : Nat → Nat → Int64} (h : f_X10_cell [.ref 0, .int x2, .int x3] (79, e, mm_R0, I, J, A, B) = some (.inr 2, (79, e', mm_R0, I', J', A', B'))) : f_L_call [.ref 0, .int (5 : Int32), .int x2, .int x3, .int x4, .int x5] (79, e, mm_R0, I, J, A, B) = some (.inl (some (.int (-2000000002 : Int32))), (79, e', mm_R0, I', J', A', B')) := by
  rw [en_L_call, sg_L_call_0, en_L_does, sg_L_does_0, pc_L_does_5, sg_L_does_131, h]
  show mm_run (mm_pr tb_L_call) (19, [some (.ref 0), some (.int (5 : Int32)), some (.int x2), some (.int x3), some (.int x4), some (.int x5), none], [], _) = _
  rw [sg_L_call_19]
theorem wx_cell_3 (x2 : Int32) (x3 : Int32) (x4 : Int32) (x5 : Int32) {e' : Nat} {I' : Nat → Nat → Int32} {J' : Nat → Nat → Int64} {A' : Nat → Nat → Int32} {B' : Nat → Nat → Int64} (h : f_X10_cell [.ref 0, .int x2, .int x3] (79, e, mm_R0, I, J, A, B) = some (.inr 3, (79, e', mm_R0, I', J', A', B'))) : f_L_call [.ref 0, .int (5 : Int32), .int x2, .int x3, .int x4, .int x5] (79, e, mm_R0, I, J, A, B) = some (.inl (some (.int (-2000000003 : Int32))), (79, e', mm_R0, I', J', A', B')) := by
  rw [en_L_call, sg_L_call_0, en_L_does, sg_L_does_0, pc_L_does_5, sg_L_does_131, h]
  show mm_run (mm_pr tb_L_call) (24, [some (.ref 0), some (.int (5 : Int32)), some (.int x2), some (.int x3), some (.int x4), some (.int x5), none], [], _) = _
  rw [sg_L_call_24]
theorem pc_L_does_6 : (if ((6 : Int32)).toInt < 0 ∨ 20 < ((6 : Int32)).toInt then 243 else ([100, 109, 115, 120, 125, 131, 138, 145, 150, 155, 166, 180, 186, 193, 198, 203, 208, 218, 224, 231, 236] : List Nat).getD (((6 : Int32)).toInt - 0).toNat 243) = 138 := by decide +kernel
theorem wl_neighbour (x2 : Int32) (x3 : Int32) (x4 : Int32) (x5 : Int32) {v : Int32} {e' : Nat} {I' : Nat → Nat → Int32} {J' : Nat → Nat → Int64} {A' : Nat → Nat → Int32} {B' : Nat → Nat → Int64} (h : f_X10_neighbour [.ref 0, .int x2, .int x3] (79, e, mm_R0, I, J, A, B) = some (.inl (some (.int v)), (79, e', mm_R0, I', J', A', B'))) : f_L_call [.ref 0, .int (6 : Int32), .int x2, .int x3, .int x4, .int x5] (79, e, mm_R0, I, J, A, B) = some (.inl (some (.int v)), (79, e', mm_R0, I', J', A', B')) := by
  rw [en_L_call, sg_L_call_0, en_L_does, sg_L_does_0, pc_L_does_6, sg_L_does_138, h]
  show mm_aftC _ _ _ _ _ (mm_run (mm_pr tb_L_does) (144, _, [.int v], _)) = _
  rw [sg_L_does_144]
  show mm_run (mm_pr tb_L_call) (11, _, [.int v], _) = _
  rw [sg_L_call_11]
theorem wx_neighbour_1 (x2 : Int32) (x3 : Int32) (x4 : Int32) (x5 : Int32) {e' : Nat} {I' : Nat → Nat → Int32} {J' : Nat → Nat → Int64} {A' : Nat → Nat → Int32} {B' : Nat → Nat → Int64} (h : f_X10_neighbour [.ref 0, .int x2, .int x3] (79, e, mm_R0, I, J, A, B) = some (.inr 1, (79, e', mm_R0, I', J', A', B'))) : f_L_call [.ref 0, .int (6 : Int32), .int x2, .int x3, .int x4, .int x5] (79, e, mm_R0, I, J, A, B) = some (.inl (some (.int (-2000000001 : Int32))), (79, e', mm_R0, I', J', A', B')) := by
  rw [en_L_call, sg_L_call_0, en_L_does, sg_L_does_0, pc_L_does_6, sg_L_does_138, h]
  show mm_run (mm_pr tb_L_call) (14, [some (.ref 0), some (.int (6 : Int32)), some (.int x2), some (.int x3), some (.int x4), some (.int x5), none], [], _) = _
  rw [sg_L_call_14]
theorem wx_neighbour_2 (x2 : Int32) (x3 : Int32) (x4 : Int32) (x5 : Int32) {e' : Nat} {I' : Nat → Nat → Int32} {J' : Nat → Nat → Int64} {A' : Nat → Nat → Int32} {B' : Nat → Nat → Int64} (h : f_X10_neighbour [.ref 0, .int x2, .int x3] (79, e, mm_R0, I, J, A, B) = some (.inr 2, (79, e', mm_R0, I', J', A', B'))) : f_L_call [.ref 0, .int (6 : Int32), .int x2, .int x3, .int x4, .int x5] (79, e, mm_R0, I, J, A, B) = some (.inl (some (.int (-2000000002 : Int32))), (79, e', mm_R0, I', J', A', B')) := by
  rw [en_L_call, sg_L_call_0, en_L_does, sg_L_does_0, pc_L_does_6, sg_L_does_138, h]
  show mm_run (mm_pr tb_L_call) (19, [some (.ref 0), some (.int (6 : Int32)), some (.int x2), some (.int x3), some (.int x4), some (.int x5), none], [], _) = _
  rw [sg_L_call_19]
theorem wx_neighbour_3 (x2 : Int32) (x3 : Int32) (x4 : Int32) (x5 : Int32) {e' : Nat} {I' : Nat → Nat → Int32} {J' : Nat → Nat → Int64} {A' : Nat → Nat → Int32} {B' : Nat → Nat → Int64} (h : f_X10_neighbour [.ref 0, .int x2, .int x3] (79, e, mm_R0, I, J, A, B) = some (.inr 3, (79, e', mm_R0, I', J', A', B'))) : f_L_call [.ref 0, .int (6 : Int32), .int x2, .int x3, .int x4, .int x5] (79, e, mm_R0, I, J, A, B) = some (.inl (some (.int (-2000000003 : Int32))), (79, e', mm_R0, I', J', A', B')) := by
  rw [en_L_call, sg_L_call_0, en_L_does, sg_L_does_0, pc_L_does_6, sg_L_does_138, h]
  show mm_run (mm_pr tb_L_call) (24, [some (.ref 0), some (.int (6 : Int32)), some (.int x2), some (.int x3), some (.int x4), some (.int x5), none], [], _) = _
  rw [sg_L_call_24]
theorem pc_L_does_7 : (if ((7 : Int32)).toInt < 0 ∨ 20 < ((7 : Int32)).toInt then 243 else ([100, 109, 115, 120, 125, 131, 138, 145, 150, 155, 166, 180, 186, 193, 198, 203, 208, 218, 224, 231, 236] : List Nat).getD (((7 : Int32)).toInt - 0).toNat 243) = 145 := by decide +kernel
theorem wl_best (x2 : Int32) (x3 : Int32) (x4 : Int32) (x5 : Int32) {v : Int32} {e' : Nat} {I' : Nat → Nat → Int32} {J' : Nat → Nat → Int64} {A' : Nat → Nat → Int32} {B' : Nat → Nat → Int64} (h : f_X10_best [.ref 0] (79, e, mm_R0, I, J, A, B) = some (.inl (some (.int v)), (79, e', mm_R0, I', J', A', B'))) : f_L_call [.ref 0, .int (7 : Int32), .int x2, .int x3, .int x4, .int x5] (79, e, mm_R0, I, J, A, B) = some (.inl (some (.int v)), (79, e', mm_R0, I', J', A', B')) := by
  rw [en_L_call, sg_L_call_0, en_L_does, sg_L_does_0, pc_L_does_7, sg_L_does_145, h]
  show mm_aftC _ _ _ _ _ (mm_run (mm_pr tb_L_does) (149, _, [.int v], _)) = _
  rw [sg_L_does_149]
  show mm_run (mm_pr tb_L_call) (11, _, [.int v], _) = _
  rw [sg_L_call_11]
theorem wx_best_1 (x2 : Int32) (x3 : Int32) (x4 : Int32) (x5 : Int32) {e' : Nat} {I' : Nat → Nat → Int32} {J' : Nat → Nat → Int64} {A' : Nat → Nat → Int32} {B' : Nat → Nat → Int64} (h : f_X10_best [.ref 0] (79, e, mm_R0, I, J, A, B) = some (.inr 1, (79, e', mm_R0, I', J', A', B'))) : f_L_call [.ref 0, .int (7 : Int32), .int x2, .int x3, .int x4, .int x5] (79, e, mm_R0, I, J, A, B) = some (.inl (some (.int (-2000000001 : Int32))), (79, e', mm_R0, I', J', A', B')) := by
  rw [en_L_call, sg_L_call_0, en_L_does, sg_L_does_0, pc_L_does_7, sg_L_does_145, h]
  show mm_run (mm_pr tb_L_call) (14, [some (.ref 0), some (.int (7 : Int32)), some (.int x2), some (.int x3), some (.int x4), some (.int x5), none], [], _) = _
  rw [sg_L_call_14]
theorem wx_best_2 (x2 : Int32) (x3 : Int32) (x4 : Int32) (x5 : Int32) {e' : Nat} {I' : Nat → Nat → Int32} {J' : Nat → Nat → Int64} {A' : Nat → Nat → Int32} {B' : Nat → Nat → Int64} (h : f_X10_best [.ref 0] (79, e, mm_R0, I, J, A, B) = some (.inr 2, (79, e', mm_R0, I', J', A', B'))) : f_L_call [.ref 0, .int (7 : Int32), .int x2, .int x3, .int x4, .int x5] (79, e, mm_R0, I, J, A, B) = some (.inl (some (.int (-2000000002 : Int32))), (79, e', mm_R0, I', J', A', B')) := by
  rw [en_L_call, sg_L_call_0, en_L_does, sg_L_does_0, pc_L_does_7, sg_L_does_145, h]
  show mm_run (mm_pr tb_L_call) (19, [some (.ref 0), some (.int (7 : Int32)), some (.int x2), some (.int x3), some (.int x4), some (.int x5), none], [], _) = _
  rw [sg_L_call_19]
theorem wx_best_3 (x2 : Int32) (x3 : Int32) (x4 : Int32) (x5 : Int32) {e' : Nat} {I' : Nat → Nat → Int32} {J' : Nat → Nat → Int64} {A' : Nat → Nat → Int32} {B' : Nat → Nat → Int64} (h : f_X10_best [.ref 0] (79, e, mm_R0, I, J, A, B) = some (.inr 3, (79, e', mm_R0, I', J', A', B'))) : f_L_call [.ref 0, .int (7 : Int32), .int x2, .int x3, .int x4, .int x5] (79, e, mm_R0, I, J, A, B) = some (.inl (some (.int (-2000000003 : Int32))), (79, e', mm_R0, I', J', A', B')) := by
  rw [en_L_call, sg_L_call_0, en_L_does, sg_L_does_0, pc_L_does_7, sg_L_does_145, h]
  show mm_run (mm_pr tb_L_call) (24, [some (.ref 0), some (.int (7 : Int32)), some (.int x2), some (.int x3), some (.int x4), some (.int x5), none], [], _) = _
  rw [sg_L_call_24]
theorem pc_L_does_8 : (if ((8 : Int32)).toInt < 0 ∨ 20 < ((8 : Int32)).toInt then 243 else ([100, 109, 115, 120, 125, 131, 138, 145, 150, 155, 166, 180, 186, 193, 198, 203, 208, 218, 224, 231, 236] : List Nat).getD (((8 : Int32)).toInt - 0).toNat 243) = 150 := by decide +kernel
theorem wl_lasts (x2 : Int32) (x3 : Int32) (x4 : Int32) (x5 : Int32) {v : Int32} {e' : Nat} {I' : Nat → Nat → Int32} {J' : Nat → Nat → Int64} {A' : Nat → Nat → Int32} {B' : Nat → Nat → Int64} (h : f_X10_lasts [.ref 0] (79, e, mm_R0, I, J, A, B) = some (.inl (some (.int v)), (79, e', mm_R0, I', J', A', B'))) : f_L_call [.ref 0, .int (8 : Int32), .int x2, .int x3, .int x4, .int x5] (79, e, mm_R0, I, J, A, B) = some (.inl (some (.int v)), (79, e', mm_R0, I', J', A', B')) := by
  rw [en_L_call, sg_L_call_0, en_L_does, sg_L_does_0, pc_L_does_8, sg_L_does_150, h]
  show mm_aftC _ _ _ _ _ (mm_run (mm_pr tb_L_does) (154, _, [.int v], _)) = _
  rw [sg_L_does_154]
  show mm_run (mm_pr tb_L_call) (11, _, [.int v], _) = _
  rw [sg_L_call_11]
theorem wx_lasts_1 (x2 : Int32) (x3 : Int32) (x4 : Int32) (x5 : Int32) {e' : Nat} {I' : Nat → Nat → Int32} {J' : Nat → Nat → Int64} {A' : Nat → Nat → Int32} {B' : Nat → Nat → Int64} (h : f_X10_lasts [.ref 0] (79, e, mm_R0, I, J, A, B) = some (.inr 1, (79, e', mm_R0, I', J', A', B'))) : f_L_call [.ref 0, .int (8 : Int32), .int x2, .int x3, .int x4, .int x5] (79, e, mm_R0, I, J, A, B) = some (.inl (some (.int (-2000000001 : Int32))), (79, e', mm_R0, I', J', A', B')) := by
  rw [en_L_call, sg_L_call_0, en_L_does, sg_L_does_0, pc_L_does_8, sg_L_does_150, h]
  show mm_run (mm_pr tb_L_call) (14, [some (.ref 0), some (.int (8 : Int32)), some (.int x2), some (.int x3), some (.int x4), some (.int x5), none], [], _) = _
  rw [sg_L_call_14]
theorem wx_lasts_2 (x2 : Int32) (x3 : Int32) (x4 : Int32) (x5 : Int32) {e' : Nat} {I' : Nat → Nat → Int32} {J' : Nat → Nat → Int64} {A' : Nat → Nat → Int32} {B' : Nat → Nat → Int64} (h : f_X10_lasts [.ref 0] (79, e, mm_R0, I, J, A, B) = some (.inr 2, (79, e', mm_R0, I', J', A', B'))) : f_L_call [.ref 0, .int (8 : Int32), .int x2, .int x3, .int x4, .int x5] (79, e, mm_R0, I, J, A, B) = some (.inl (some (.int (-2000000002 : Int32))), (79, e', mm_R0, I', J', A', B')) := by
  rw [en_L_call, sg_L_call_0, en_L_does, sg_L_does_0, pc_L_does_8, sg_L_does_150, h]
  show mm_run (mm_pr tb_L_call) (19, [some (.ref 0), some (.int (8 : Int32)), some (.int x2), some (.int x3), some (.int x4), some (.int x5), none], [], _) = _
  rw [sg_L_call_19]
theorem wx_lasts_3 (x2 : Int32) (x3 : Int32) (x4 : Int32) (x5 : Int32) {e' : Nat} {I' : Nat → Nat → Int32} {J' : Nat → Nat → Int64} {A' : Nat → Nat → Int32} {B' : Nat → Nat → Int64} (h : f_X10_lasts [.ref 0] (79, e, mm_R0, I, J, A, B) = some (.inr 3, (79, e', mm_R0, I', J', A', B'))) : f_L_call [.ref 0, .int (8 : Int32), .int x2, .int x3, .int x4, .int x5] (79, e, mm_R0, I, J, A, B) = some (.inl (some (.int (-2000000003 : Int32))), (79, e', mm_R0, I', J', A', B')) := by
  rw [en_L_call, sg_L_call_0, en_L_does, sg_L_does_0, pc_L_does_8, sg_L_does_150, h]
  show mm_run (mm_pr tb_L_call) (24, [some (.ref 0), some (.int (8 : Int32)), some (.int x2), some (.int x3), some (.int x4), some (.int x5), none], [], _) = _
  rw [sg_L_call_24]
theorem pc_L_does_9 : (if ((9 : Int32)).toInt < 0 ∨ 20 < ((9 : Int32)).toInt then 243 else ([100, 109, 115, 120, 125, 131, 138, 145, 150, 155, 166, 180, 186, 193, 198, 203, 208, 218, 224, 231, 236] : List Nat).getD (((9 : Int32)).toInt - 0).toNat 243) = 155 := by decide +kernel
theorem wl_answer (x2 : Int32) (x3 : Int32) (x4 : Int32) (x5 : Int32) {v : Int32} {e' : Nat} {I' : Nat → Nat → Int32} {J' : Nat → Nat → Int64} {A' : Nat → Nat → Int32} {B' : Nat → Nat → Int64} (h : f_X10_answer [.ref 0, .int x2, .int x3, .int x4, .int x5] (79, e, mm_R0, I, J, A, B) = some (.inl (some (.int v)), (79, e', mm_R0, I', J', A', B'))) : f_L_call [.ref 0, .int (9 : Int32), .int x2, .int x3, .int x4, .int x5] (79, e, mm_R0, I, J, A, B) = some (.inl (some (.int v)), (79, e', mm_R0, I', J', A', B')) := by
  rw [en_L_call, sg_L_call_0, en_L_does, sg_L_does_0, pc_L_does_9, sg_L_does_155, h]
  show mm_aftC _ _ _ _ _ (mm_run (mm_pr tb_L_does) (165, _, [.int v], _)) = _
  rw [sg_L_does_165]
  show mm_run (mm_pr tb_L_call) (11, _, [.int v], _) = _
  rw [sg_L_call_11]
theorem wx_answer_1 (x2 : Int32) (x3 : Int32) (x4 : Int32) (x5 : Int32) {e' : Nat} {I' : Nat → Nat → Int32} {J' : Nat → Nat → Int64} {A' : Nat → Nat → Int32} {B' : Nat → Nat → Int64} (h : f_X10_answer [.ref 0, .int x2, .int x3, .int x4, .int x5] (79, e, mm_R0, I, J, A, B) = some (.inr 1, (79, e', mm_R0, I', J', A', B'))) : f_L_call [.ref 0, .int (9 : Int32), .int x2, .int x3, .int x4, .int x5] (79, e, mm_R0, I, J, A, B) = some (.inl (some (.int (-2000000001 : Int32))), (79, e', mm_R0, I', J', A', B')) := by
  rw [en_L_call, sg_L_call_0, en_L_does, sg_L_does_0, pc_L_does_9, sg_L_does_155, h]
  show mm_run (mm_pr tb_L_call) (14, [some (.ref 0), some (.int (9 : Int32)), some (.int x2), some (.int x3), some (.int x4), some (.int x5), none], [], _) = _
  rw [sg_L_call_14]
theorem wx_answer_2 (x2 : Int32) (x3 : Int32) (x4 : Int32) (x5 : Int32) {e' : Nat} {I' : Nat → Nat → Int32} {J' : Nat → Nat → Int64} {A' : Nat → Nat → Int32} {B' : Nat → Nat → Int64} (h : f_X10_answer [.ref 0, .int x2, .int x3, .int x4, .int x5] (79, e, mm_R0, I, J, A, B) = some (.inr 2, (79, e', mm_R0, I', J', A', B'))) : f_L_call [.ref 0, .int (9 : Int32), .int x2, .int x3, .int x4, .int x5] (79, e, mm_R0, I, J, A, B) = some (.inl (some (.int (-2000000002 : Int32))), (79, e', mm_R0, I', J', A', B')) := by
  rw [en_L_call, sg_L_call_0, en_L_does, sg_L_does_0, pc_L_does_9, sg_L_does_155, h]
  show mm_run (mm_pr tb_L_call) (19, [some (.ref 0), some (.int (9 : Int32)), some (.int x2), some (.int x3), some (.int x4), some (.int x5), none], [], _) = _
  rw [sg_L_call_19]
theorem wx_answer_3 (x2 : Int32) (x3 : Int32) (x4 : Int32) (x5 : Int32) {e' : Nat} {I' : Nat → Nat → Int32} {J' : Nat → Nat → Int64} {A' : Nat → Nat → Int32} {B' : Nat → Nat → Int64} (h : f_X10_answer [.ref 0, .int x2, .int x3, .int x4, .int x5] (79, e, mm_R0, I, J, A, B) = some (.inr 3, (79, e', mm_R0, I', J', A', B'))) : f_L_call [.ref 0, .int (9 : Int32), .int x2, .int x3, .int x4, .int x5] (79, e, mm_R0, I, J, A, B) = some (.inl (some (.int (-2000000003 : Int32))), (79, e', mm_R0, I', J', A', B')) := by
  rw [en_L_call, sg_L_call_0, en_L_does, sg_L_does_0, pc_L_does_9, sg_L_does_155, h]
  show mm_run (mm_pr tb_L_call) (24, [some (.ref 0), some (.int (9 : Int32)), some (.int x2), some (.int x3), some (.int x4), some (.int x5), none], [], _) = _
  rw [sg_L_call_24]
theorem pc_L_does_10 : (if ((10 : Int32)).toInt < 0 ∨ 20 < ((10 : Int32)).toInt then 243 else ([100, 109, 115, 120, 125, 131, 138, 145, 150, 155, 166, 180, 186, 193, 198, 203, 208, 218, 224, 231, 236] : List Nat).getD (((10 : Int32)).toInt - 0).toNat 243) = 166 := by decide +kernel
theorem wl_gaveAway (x2 : Int32) (x3 : Int32) (x4 : Int32) (x5 : Int32) {b : Bool} {e' : Nat} {I' : Nat → Nat → Int32} {J' : Nat → Nat → Int64} {A' : Nat → Nat → Int32} {B' : Nat → Nat → Int64} (h : f_X10_gaveAway [.ref 0, .int x2] (79, e, mm_R0, I, J, A, B) = some (.inl (some (.int (bi b))), (79, e', mm_R0, I', J', A', B'))) : f_L_call [.ref 0, .int (10 : Int32), .int x2, .int x3, .int x4, .int x5] (79, e, mm_R0, I, J, A, B) = some (.inl (some (.int (bi b))), (79, e', mm_R0, I', J', A', B')) := by
  rw [en_L_call, sg_L_call_0, en_L_does, sg_L_does_0, pc_L_does_10, sg_L_does_166, h]
  cases b with
  | false =>
    show mm_aftC _ _ _ _ _ (mm_run (mm_pr tb_L_does) (171, _, [.int (bi false)], _)) = _
    rw [sg_L_does_171, if_pos (show bi false = 0 from rfl), sg_L_does_179]
    show mm_run (mm_pr tb_L_call) (11, _, [.int (0 : Int32)], _) = _
    rw [sg_L_call_11]
    rfl
  | true =>
    show mm_aftC _ _ _ _ _ (mm_run (mm_pr tb_L_does) (171, _, [.int (bi true)], _)) = _
    rw [sg_L_does_171, if_neg (show ¬ bi true = 0 by decide), sg_L_does_179]
    show mm_run (mm_pr tb_L_call) (11, _, [.int (1 : Int32)], _) = _
    rw [sg_L_call_11]
    rfl
theorem wx_gaveAway_1 (x2 : Int32) (x3 : Int32) (x4 : Int32) (x5 : Int32) {e' : Nat} {I' : Nat → Nat → Int32} {J' : Nat → Nat → Int64} {A' : Nat → Nat → Int32} {B' : Nat → Nat → Int64} (h : f_X10_gaveAway [.ref 0, .int x2] (79, e, mm_R0, I, J, A, B) = some (.inr 1, (79, e', mm_R0, I', J', A', B'))) : f_L_call [.ref 0, .int (10 : Int32), .int x2, .int x3, .int x4, .int x5] (79, e, mm_R0, I, J, A, B) = some (.inl (some (.int (-2000000001 : Int32))), (79, e', mm_R0, I', J', A', B')) := by
  rw [en_L_call, sg_L_call_0, en_L_does, sg_L_does_0, pc_L_does_10, sg_L_does_166, h]
  show mm_run (mm_pr tb_L_call) (14, [some (.ref 0), some (.int (10 : Int32)), some (.int x2), some (.int x3), some (.int x4), some (.int x5), none], [], _) = _
  rw [sg_L_call_14]
theorem wx_gaveAway_2 (x2 : Int32) (x3 : Int32) (x4 : Int32) (x5 : Int32) {e' : Nat} {I' : Nat → Nat → Int32} {J' : Nat → Nat → Int64} {A' : Nat → Nat → Int32} {B' : Nat → Nat → Int64} (h : f_X10_gaveAway [.ref 0, .int x2] (79, e, mm_R0, I, J, A, B) = some (.inr 2, (79, e', mm_R0, I', J', A', B'))) : f_L_call [.ref 0, .int (10 : Int32), .int x2, .int x3, .int x4, .int x5] (79, e, mm_R0, I, J, A, B) = some (.inl (some (.int (-2000000002 : Int32))), (79, e', mm_R0, I', J', A', B')) := by
  rw [en_L_call, sg_L_call_0, en_L_does, sg_L_does_0, pc_L_does_10, sg_L_does_166, h]
  show mm_run (mm_pr tb_L_call) (19, [some (.ref 0), some (.int (10 : Int32)), some (.int x2), some (.int x3), some (.int x4), some (.int x5), none], [], _) = _
  rw [sg_L_call_19]
theorem wx_gaveAway_3 (x2 : Int32) (x3 : Int32) (x4 : Int32) (x5 : Int32) {e' : Nat} {I' : Nat → Nat → Int32} {J' : Nat → Nat → Int64} {A' : Nat → Nat → Int32} {B' : Nat → Nat → Int64} (h : f_X10_gaveAway [.ref 0, .int x2] (79, e, mm_R0, I, J, A, B) = some (.inr 3, (79, e', mm_R0, I', J', A', B'))) : f_L_call [.ref 0, .int (10 : Int32), .int x2, .int x3, .int x4, .int x5] (79, e, mm_R0, I, J, A, B) = some (.inl (some (.int (-2000000003 : Int32))), (79, e', mm_R0, I', J', A', B')) := by
  rw [en_L_call, sg_L_call_0, en_L_does, sg_L_does_0, pc_L_does_10, sg_L_does_166, h]
  show mm_run (mm_pr tb_L_call) (24, [some (.ref 0), some (.int (10 : Int32)), some (.int x2), some (.int x3), some (.int x4), some (.int x5), none], [], _) = _
  rw [sg_L_call_24]
theorem pc_L_does_11 : (if ((11 : Int32)).toInt < 0 ∨ 20 < ((11 : Int32)).toInt then 243 else ([100, 109, 115, 120, 125, 131, 138, 145, 150, 155, 166, 180, 186, 193, 198, 203, 208, 218, 224, 231, 236] : List Nat).getD (((11 : Int32)).toInt - 0).toNat 243) = 180 := by decide +kernel
theorem wl_far (x2 : Int32) (x3 : Int32) (x4 : Int32) (x5 : Int32) {v : Int32} {e' : Nat} {I' : Nat → Nat → Int32} {J' : Nat → Nat → Int64} {A' : Nat → Nat → Int32} {B' : Nat → Nat → Int64} (h : f_X10_far [.ref 0, .int x2] (79, e, mm_R0, I, J, A, B) = some (.inl (some (.int v)), (79, e', mm_R0, I', J', A', B'))) : f_L_call [.ref 0, .int (11 : Int32), .int x2, .int x3, .int x4, .int x5] (79, e, mm_R0, I, J, A, B) = some (.inl (some (.int v)), (79, e', mm_R0, I', J', A', B')) := by
  rw [en_L_call, sg_L_call_0, en_L_does, sg_L_does_0, pc_L_does_11, sg_L_does_180, h]
  show mm_aftC _ _ _ _ _ (mm_run (mm_pr tb_L_does) (185, _, [.int v], _)) = _
  rw [sg_L_does_185]
  show mm_run (mm_pr tb_L_call) (11, _, [.int v], _) = _
  rw [sg_L_call_11]
theorem wx_far_1 (x2 : Int32) (x3 : Int32) (x4 : Int32) (x5 : Int32) {e' : Nat} {I' : Nat → Nat → Int32} {J' : Nat → Nat → Int64} {A' : Nat → Nat → Int32} {B' : Nat → Nat → Int64} (h : f_X10_far [.ref 0, .int x2] (79, e, mm_R0, I, J, A, B) = some (.inr 1, (79, e', mm_R0, I', J', A', B'))) : f_L_call [.ref 0, .int (11 : Int32), .int x2, .int x3, .int x4, .int x5] (79, e, mm_R0, I, J, A, B) = some (.inl (some (.int (-2000000001 : Int32))), (79, e', mm_R0, I', J', A', B')) := by
  rw [en_L_call, sg_L_call_0, en_L_does, sg_L_does_0, pc_L_does_11, sg_L_does_180, h]
  show mm_run (mm_pr tb_L_call) (14, [some (.ref 0), some (.int (11 : Int32)), some (.int x2), some (.int x3), some (.int x4), some (.int x5), none], [], _) = _
  rw [sg_L_call_14]
theorem wx_far_2 (x2 : Int32) (x3 : Int32) (x4 : Int32) (x5 : Int32) {e' : Nat} {I' : Nat → Nat → Int32} {J' : Nat → Nat → Int64} {A' : Nat → Nat → Int32} {B' : Nat → Nat → Int64} (h : f_X10_far [.ref 0, .int x2] (79, e, mm_R0, I, J, A, B) = some (.inr 2, (79, e', mm_R0, I', J', A', B'))) : f_L_call [.ref 0, .int (11 : Int32), .int x2, .int x3, .int x4, .int x5] (79, e, mm_R0, I, J, A, B) = some (.inl (some (.int (-2000000002 : Int32))), (79, e', mm_R0, I', J', A', B')) := by
  rw [en_L_call, sg_L_call_0, en_L_does, sg_L_does_0, pc_L_does_11, sg_L_does_180, h]
  show mm_run (mm_pr tb_L_call) (19, [some (.ref 0), some (.int (11 : Int32)), some (.int x2), some (.int x3), some (.int x4), some (.int x5), none], [], _) = _
  rw [sg_L_call_19]
theorem wx_far_3 (x2 : Int32) (x3 : Int32) (x4 : Int32) (x5 : Int32) {e' : Nat} {I' : Nat → Nat → Int32} {J' : Nat → Nat → Int64} {A' : Nat → Nat → Int32} {B' : Nat → Nat → Int64} (h : f_X10_far [.ref 0, .int x2] (79, e, mm_R0, I, J, A, B) = some (.inr 3, (79, e', mm_R0, I', J', A', B'))) : f_L_call [.ref 0, .int (11 : Int32), .int x2, .int x3, .int x4, .int x5] (79, e, mm_R0, I, J, A, B) = some (.inl (some (.int (-2000000003 : Int32))), (79, e', mm_R0, I', J', A', B')) := by
  rw [en_L_call, sg_L_call_0, en_L_does, sg_L_does_0, pc_L_does_11, sg_L_does_180, h]
  show mm_run (mm_pr tb_L_call) (24, [some (.ref 0), some (.int (11 : Int32)), some (.int x2), some (.int x3), some (.int x4), some (.int x5), none], [], _) = _
  rw [sg_L_call_24]
theorem pc_L_does_12 : (if ((12 : Int32)).toInt < 0 ∨ 20 < ((12 : Int32)).toInt then 243 else ([100, 109, 115, 120, 125, 131, 138, 145, 150, 155, 166, 180, 186, 193, 198, 203, 208, 218, 224, 231, 236] : List Nat).getD (((12 : Int32)).toInt - 0).toNat 243) = 186 := by decide +kernel
theorem wl_plays (x2 : Int32) (x3 : Int32) (x4 : Int32) (x5 : Int32) {v : Int32} {e' : Nat} {I' : Nat → Nat → Int32} {J' : Nat → Nat → Int64} {A' : Nat → Nat → Int32} {B' : Nat → Nat → Int64} (h : f_X10_plays [.ref 0, .int x2, .int x3] (79, e, mm_R0, I, J, A, B) = some (.inl (some (.int v)), (79, e', mm_R0, I', J', A', B'))) : f_L_call [.ref 0, .int (12 : Int32), .int x2, .int x3, .int x4, .int x5] (79, e, mm_R0, I, J, A, B) = some (.inl (some (.int v)), (79, e', mm_R0, I', J', A', B')) := by
  rw [en_L_call, sg_L_call_0, en_L_does, sg_L_does_0, pc_L_does_12, sg_L_does_186, h]
  show mm_aftC _ _ _ _ _ (mm_run (mm_pr tb_L_does) (192, _, [.int v], _)) = _
  rw [sg_L_does_192]
  show mm_run (mm_pr tb_L_call) (11, _, [.int v], _) = _
  rw [sg_L_call_11]
theorem wx_plays_1 (x2 : Int32) (x3 : Int32) (x4 : Int32) (x5 : Int32) {e' : Nat} {I' : Nat → Nat → Int32} {J' : Nat → Nat → Int64} {A' : Nat → Nat → Int32} {B' : Nat → Nat → Int64} (h : f_X10_plays [.ref 0, .int x2, .int x3] (79, e, mm_R0, I, J, A, B) = some (.inr 1, (79, e', mm_R0, I', J', A', B'))) : f_L_call [.ref 0, .int (12 : Int32), .int x2, .int x3, .int x4, .int x5] (79, e, mm_R0, I, J, A, B) = some (.inl (some (.int (-2000000001 : Int32))), (79, e', mm_R0, I', J', A', B')) := by
  rw [en_L_call, sg_L_call_0, en_L_does, sg_L_does_0, pc_L_does_12, sg_L_does_186, h]
  show mm_run (mm_pr tb_L_call) (14, [some (.ref 0), some (.int (12 : Int32)), some (.int x2), some (.int x3), some (.int x4), some (.int x5), none], [], _) = _
  rw [sg_L_call_14]
theorem wx_plays_2 (x2 : Int32) (x3 : Int32) (x4 : Int32) (x5 : Int32) {e' : Nat} {I' : Nat → Nat → Int32} {J' : Nat → Nat → Int64} {A' : Nat → Nat → Int32} {B' : Nat → Nat → Int64} (h : f_X10_plays [.ref 0, .int x2, .int x3] (79, e, mm_R0, I, J, A, B) = some (.inr 2, (79, e', mm_R0, I', J', A', B'))) : f_L_call [.ref 0, .int (12 : Int32), .int x2, .int x3, .int x4, .int x5] (79, e, mm_R0, I, J, A, B) = some (.inl (some (.int (-2000000002 : Int32))), (79, e', mm_R0, I', J', A', B')) := by
  rw [en_L_call, sg_L_call_0, en_L_does, sg_L_does_0, pc_L_does_12, sg_L_does_186, h]
  show mm_run (mm_pr tb_L_call) (19, [some (.ref 0), some (.int (12 : Int32)), some (.int x2), some (.int x3), some (.int x4), some (.int x5), none], [], _) = _
  rw [sg_L_call_19]
theorem wx_plays_3 (x2 : Int32) (x3 : Int32) (x4 : Int32) (x5 : Int32) {e' : Nat} {I' : Nat → Nat → Int32} {J' : Nat → Nat → Int64} {A' : Nat → Nat → Int32} {B' : Nat → Nat → Int64} (h : f_X10_plays [.ref 0, .int x2, .int x3] (79, e, mm_R0, I, J, A, B) = some (.inr 3, (79, e', mm_R0, I', J', A', B'))) : f_L_call [.ref 0, .int (12 : Int32), .int x2, .int x3, .int x4, .int x5] (79, e, mm_R0, I, J, A, B) = some (.inl (some (.int (-2000000003 : Int32))), (79, e', mm_R0, I', J', A', B')) := by
  rw [en_L_call, sg_L_call_0, en_L_does, sg_L_does_0, pc_L_does_12, sg_L_does_186, h]
  show mm_run (mm_pr tb_L_call) (24, [some (.ref 0), some (.int (12 : Int32)), some (.int x2), some (.int x3), some (.int x4), some (.int x5), none], [], _) = _
  rw [sg_L_call_24]
theorem pc_L_does_13 : (if ((13 : Int32)).toInt < 0 ∨ 20 < ((13 : Int32)).toInt then 243 else ([100, 109, 115, 120, 125, 131, 138, 145, 150, 155, 166, 180, 186, 193, 198, 203, 208, 218, 224, 231, 236] : List Nat).getD (((13 : Int32)).toInt - 0).toNat 243) = 193 := by decide +kernel
theorem wl_wipe (x2 : Int32) (x3 : Int32) (x4 : Int32) (x5 : Int32) {v : Int32} {e' : Nat} {I' : Nat → Nat → Int32} {J' : Nat → Nat → Int64} {A' : Nat → Nat → Int32} {B' : Nat → Nat → Int64} (h : f_X10_wipe [.ref 0] (79, e, mm_R0, I, J, A, B) = some (.inl (some (.int v)), (79, e', mm_R0, I', J', A', B'))) : f_L_call [.ref 0, .int (13 : Int32), .int x2, .int x3, .int x4, .int x5] (79, e, mm_R0, I, J, A, B) = some (.inl (some (.int v)), (79, e', mm_R0, I', J', A', B')) := by
  rw [en_L_call, sg_L_call_0, en_L_does, sg_L_does_0, pc_L_does_13, sg_L_does_193, h]
  show mm_aftC _ _ _ _ _ (mm_run (mm_pr tb_L_does) (197, _, [.int v], _)) = _
  rw [sg_L_does_197]
  show mm_run (mm_pr tb_L_call) (11, _, [.int v], _) = _
  rw [sg_L_call_11]
theorem wx_wipe_1 (x2 : Int32) (x3 : Int32) (x4 : Int32) (x5 : Int32) {e' : Nat} {I' : Nat → Nat → Int32} {J' : Nat → Nat → Int64} {A' : Nat → Nat → Int32} {B' : Nat → Nat → Int64} (h : f_X10_wipe [.ref 0] (79, e, mm_R0, I, J, A, B) = some (.inr 1, (79, e', mm_R0, I', J', A', B'))) : f_L_call [.ref 0, .int (13 : Int32), .int x2, .int x3, .int x4, .int x5] (79, e, mm_R0, I, J, A, B) = some (.inl (some (.int (-2000000001 : Int32))), (79, e', mm_R0, I', J', A', B')) := by
  rw [en_L_call, sg_L_call_0, en_L_does, sg_L_does_0, pc_L_does_13, sg_L_does_193, h]
  show mm_run (mm_pr tb_L_call) (14, [some (.ref 0), some (.int (13 : Int32)), some (.int x2), some (.int x3), some (.int x4), some (.int x5), none], [], _) = _
  rw [sg_L_call_14]
theorem wx_wipe_2 (x2 : Int32) (x3 : Int32) (x4 : Int32) (x5 : Int32) {e' : Nat} {I' : Nat → Nat → Int32} {J' : Nat → Nat → Int64} {A' : Nat → Nat → Int32} {B' : Nat → Nat → Int64} (h : f_X10_wipe [.ref 0] (79, e, mm_R0, I, J, A, B) = some (.inr 2, (79, e', mm_R0, I', J', A', B'))) : f_L_call [.ref 0, .int (13 : Int32), .int x2, .int x3, .int x4, .int x5] (79, e, mm_R0, I, J, A, B) = some (.inl (some (.int (-2000000002 : Int32))), (79, e', mm_R0, I', J', A', B')) := by
  rw [en_L_call, sg_L_call_0, en_L_does, sg_L_does_0, pc_L_does_13, sg_L_does_193, h]
  show mm_run (mm_pr tb_L_call) (19, [some (.ref 0), some (.int (13 : Int32)), some (.int x2), some (.int x3), some (.int x4), some (.int x5), none], [], _) = _
  rw [sg_L_call_19]
theorem wx_wipe_3 (x2 : Int32) (x3 : Int32) (x4 : Int32) (x5 : Int32) {e' : Nat} {I' : Nat → Nat → Int32} {J' : Nat → Nat → Int64} {A' : Nat → Nat → Int32} {B' : Nat → Nat → Int64} (h : f_X10_wipe [.ref 0] (79, e, mm_R0, I, J, A, B) = some (.inr 3, (79, e', mm_R0, I', J', A', B'))) : f_L_call [.ref 0, .int (13 : Int32), .int x2, .int x3, .int x4, .int x5] (79, e, mm_R0, I, J, A, B) = some (.inl (some (.int (-2000000003 : Int32))), (79, e', mm_R0, I', J', A', B')) := by
  rw [en_L_call, sg_L_call_0, en_L_does, sg_L_does_0, pc_L_does_13, sg_L_does_193, h]
  show mm_run (mm_pr tb_L_call) (24, [some (.ref 0), some (.int (13 : Int32)), some (.int x2), some (.int x3), some (.int x4), some (.int x5), none], [], _) = _
  rw [sg_L_call_24]
theorem pc_L_does_14 : (if ((14 : Int32)).toInt < 0 ∨ 20 < ((14 : Int32)).toInt then 243 else ([100, 109, 115, 120, 125, 131, 138, 145, 150, 155, 166, 180, 186, 193, 198, 203, 208, 218, 224, 231, 236] : List Nat).getD (((14 : Int32)).toInt - 0).toNat 243) = 198 := by decide +kernel
theorem wl_fault (x2 : Int32) (x3 : Int32) (x4 : Int32) (x5 : Int32) {v : Int32} {e' : Nat} {I' : Nat → Nat → Int32} {J' : Nat → Nat → Int64} {A' : Nat → Nat → Int32} {B' : Nat → Nat → Int64} (h : f_X10_fault [.ref 0] (79, e, mm_R0, I, J, A, B) = some (.inl (some (.int v)), (79, e', mm_R0, I', J', A', B'))) : f_L_call [.ref 0, .int (14 : Int32), .int x2, .int x3, .int x4, .int x5] (79, e, mm_R0, I, J, A, B) = some (.inl (some (.int v)), (79, e', mm_R0, I', J', A', B')) := by
  rw [en_L_call, sg_L_call_0, en_L_does, sg_L_does_0, pc_L_does_14, sg_L_does_198, h]
  show mm_aftC _ _ _ _ _ (mm_run (mm_pr tb_L_does) (202, _, [.int v], _)) = _
  rw [sg_L_does_202]
  show mm_run (mm_pr tb_L_call) (11, _, [.int v], _) = _
  rw [sg_L_call_11]
theorem wx_fault_1 (x2 : Int32) (x3 : Int32) (x4 : Int32) (x5 : Int32) {e' : Nat} {I' : Nat → Nat → Int32} {J' : Nat → Nat → Int64} {A' : Nat → Nat → Int32} {B' : Nat → Nat → Int64} (h : f_X10_fault [.ref 0] (79, e, mm_R0, I, J, A, B) = some (.inr 1, (79, e', mm_R0, I', J', A', B'))) : f_L_call [.ref 0, .int (14 : Int32), .int x2, .int x3, .int x4, .int x5] (79, e, mm_R0, I, J, A, B) = some (.inl (some (.int (-2000000001 : Int32))), (79, e', mm_R0, I', J', A', B')) := by
  rw [en_L_call, sg_L_call_0, en_L_does, sg_L_does_0, pc_L_does_14, sg_L_does_198, h]
  show mm_run (mm_pr tb_L_call) (14, [some (.ref 0), some (.int (14 : Int32)), some (.int x2), some (.int x3), some (.int x4), some (.int x5), none], [], _) = _
  rw [sg_L_call_14]
theorem wx_fault_2 (x2 : Int32) (x3 : Int32) (x4 : Int32) (x5 : Int32) {e' : Nat} {I' : Nat → Nat → Int32} {J' : Nat → Nat → Int64} {A' : Nat → Nat → Int32} {B' : Nat → Nat → Int64} (h : f_X10_fault [.ref 0] (79, e, mm_R0, I, J, A, B) = some (.inr 2, (79, e', mm_R0, I', J', A', B'))) : f_L_call [.ref 0, .int (14 : Int32), .int x2, .int x3, .int x4, .int x5] (79, e, mm_R0, I, J, A, B) = some (.inl (some (.int (-2000000002 : Int32))), (79, e', mm_R0, I', J', A', B')) := by
  rw [en_L_call, sg_L_call_0, en_L_does, sg_L_does_0, pc_L_does_14, sg_L_does_198, h]
  show mm_run (mm_pr tb_L_call) (19, [some (.ref 0), some (.int (14 : Int32)), some (.int x2), some (.int x3), some (.int x4), some (.int x5), none], [], _) = _
  rw [sg_L_call_19]
theorem wx_fault_3 (x2 : Int32) (x3 : Int32) (x4 : Int32) (x5 : Int32) {e' : Nat} {I' : Nat → Nat → Int32} {J' : Nat → Nat → Int64} {A' : Nat → Nat → Int32} {B' : Nat → Nat → Int64} (h : f_X10_fault [.ref 0] (79, e, mm_R0, I, J, A, B) = some (.inr 3, (79, e', mm_R0, I', J', A', B'))) : f_L_call [.ref 0, .int (14 : Int32), .int x2, .int x3, .int x4, .int x5] (79, e, mm_R0, I, J, A, B) = some (.inl (some (.int (-2000000003 : Int32))), (79, e', mm_R0, I', J', A', B')) := by
  rw [en_L_call, sg_L_call_0, en_L_does, sg_L_does_0, pc_L_does_14, sg_L_does_198, h]
  show mm_run (mm_pr tb_L_call) (24, [some (.ref 0), some (.int (14 : Int32)), some (.int x2), some (.int x3), some (.int x4), some (.int x5), none], [], _) = _
  rw [sg_L_call_24]
theorem pc_L_does_15 : (if ((15 : Int32)).toInt < 0 ∨ 20 < ((15 : Int32)).toInt then 243 else ([100, 109, 115, 120, 125, 131, 138, 145, 150, 155, 166, 180, 186, 193, 198, 203, 208, 218, 224, 231, 236] : List Nat).getD (((15 : Int32)).toInt - 0).toNat 243) = 203 := by decide +kernel
theorem wl_pattern (x2 : Int32) (x3 : Int32) (x4 : Int32) (x5 : Int32) {v : Int32} {e' : Nat} {I' : Nat → Nat → Int32} {J' : Nat → Nat → Int64} {A' : Nat → Nat → Int32} {B' : Nat → Nat → Int64} (h : f_X10_pattern [.ref 0] (79, e, mm_R0, I, J, A, B) = some (.inl (some (.int v)), (79, e', mm_R0, I', J', A', B'))) : f_L_call [.ref 0, .int (15 : Int32), .int x2, .int x3, .int x4, .int x5] (79, e, mm_R0, I, J, A, B) = some (.inl (some (.int v)), (79, e', mm_R0, I', J', A', B')) := by
  rw [en_L_call, sg_L_call_0, en_L_does, sg_L_does_0, pc_L_does_15, sg_L_does_203, h]
  show mm_aftC _ _ _ _ _ (mm_run (mm_pr tb_L_does) (207, _, [.int v], _)) = _
  rw [sg_L_does_207]
  show mm_run (mm_pr tb_L_call) (11, _, [.int v], _) = _
  rw [sg_L_call_11]
theorem wx_pattern_1 (x2 : Int32) (x3 : Int32) (x4 : Int32) (x5 : Int32) {e' : Nat} {I' : Nat → Nat → Int32} {J' : Nat → Nat → Int64} {A' : Nat → Nat → Int32} {B' : Nat → Nat → Int64} (h : f_X10_pattern [.ref 0] (79, e, mm_R0, I, J, A, B) = some (.inr 1, (79, e', mm_R0, I', J', A', B'))) : f_L_call [.ref 0, .int (15 : Int32), .int x2, .int x3, .int x4, .int x5] (79, e, mm_R0, I, J, A, B) = some (.inl (some (.int (-2000000001 : Int32))), (79, e', mm_R0, I', J', A', B')) := by
  rw [en_L_call, sg_L_call_0, en_L_does, sg_L_does_0, pc_L_does_15, sg_L_does_203, h]
  show mm_run (mm_pr tb_L_call) (14, [some (.ref 0), some (.int (15 : Int32)), some (.int x2), some (.int x3), some (.int x4), some (.int x5), none], [], _) = _
  rw [sg_L_call_14]
theorem wx_pattern_2 (x2 : Int32) (x3 : Int32) (x4 : Int32) (x5 : Int32) {e' : Nat} {I' : Nat → Nat → Int32} {J' : Nat → Nat → Int64} {A' : Nat → Nat → Int32} {B' : Nat → Nat → Int64} (h : f_X10_pattern [.ref 0] (79, e, mm_R0, I, J, A, B) = some (.inr 2, (79, e', mm_R0, I', J', A', B'))) : f_L_call [.ref 0, .int (15 : Int32), .int x2, .int x3, .int x4, .int x5] (79, e, mm_R0, I, J, A, B) = some (.inl (some (.int (-2000000002 : Int32))), (79, e', mm_R0, I', J', A', B')) := by
  rw [en_L_call, sg_L_call_0, en_L_does, sg_L_does_0, pc_L_does_15, sg_L_does_203, h]
  show mm_run (mm_pr tb_L_call) (19, [some (.ref 0), some (.int (15 : Int32)), some (.int x2), some (.int x3), some (.int x4), some (.int x5), none], [], _) = _
  rw [sg_L_call_19]
theorem wx_pattern_3 (x2 : Int32) (x3 : Int32) (x4 : Int32) (x5 : Int32) {e' : Nat} {I' : Nat → Nat → Int32} {J' : Nat → Nat → Int64} {A' : Nat → Nat → Int32} {B' : Nat → Nat → Int64} (h : f_X10_pattern [.ref 0] (79, e, mm_R0, I, J, A, B) = some (.inr 3, (79, e', mm_R0, I', J', A', B'))) : f_L_call [.ref 0, .int (15 : Int32), .int x2, .int x3, .int x4, .int x5] (79, e, mm_R0, I, J, A, B) = some (.inl (some (.int (-2000000003 : Int32))), (79, e', mm_R0, I', J', A', B')) := by
  rw [en_L_call, sg_L_call_0, en_L_does, sg_L_does_0, pc_L_does_15, sg_L_does_203, h]
  show mm_run (mm_pr tb_L_call) (24, [some (.ref 0), some (.int (15 : Int32)), some (.int x2), some (.int x3), some (.int x4), some (.int x5), none], [], _) = _
  rw [sg_L_call_24]
theorem pc_L_does_16 : (if ((16 : Int32)).toInt < 0 ∨ 20 < ((16 : Int32)).toInt then 243 else ([100, 109, 115, 120, 125, 131, 138, 145, 150, 155, 166, 180, 186, 193, 198, 203, 208, 218, 224, 231, 236] : List Nat).getD (((16 : Int32)).toInt - 0).toNat 243) = 208 := by decide +kernel
theorem wl_clocks (x2 : Int32) (x3 : Int32) (x4 : Int32) (x5 : Int32) {e' : Nat} {I' : Nat → Nat → Int32} {J' : Nat → Nat → Int64} {A' : Nat → Nat → Int32} {B' : Nat → Nat → Int64} (h : f_X10_clocks [.ref 0, .int x2, .int x3, .int x4] (79, e, mm_R0, I, J, A, B) = some (.inl none, (79, e', mm_R0, I', J', A', B'))) : f_L_call [.ref 0, .int (16 : Int32), .int x2, .int x3, .int x4, .int x5] (79, e, mm_R0, I, J, A, B) = some (.inl (some (.int (0 : Int32))), (79, e', mm_R0, I', J', A', B')) := by
  rw [en_L_call, sg_L_call_0, en_L_does, sg_L_does_0, pc_L_does_16, sg_L_does_208, h]
  show mm_aftC _ _ _ _ _ (mm_run (mm_pr tb_L_does) (216, _, [], _)) = _
  rw [sg_L_does_216]
  show mm_run (mm_pr tb_L_call) (11, _, [.int (0 : Int32)], _) = _
  rw [sg_L_call_11]
theorem wx_clocks_1 (x2 : Int32) (x3 : Int32) (x4 : Int32) (x5 : Int32) {e' : Nat} {I' : Nat → Nat → Int32} {J' : Nat → Nat → Int64} {A' : Nat → Nat → Int32} {B' : Nat → Nat → Int64} (h : f_X10_clocks [.ref 0, .int x2, .int x3, .int x4] (79, e, mm_R0, I, J, A, B) = some (.inr 1, (79, e', mm_R0, I', J', A', B'))) : f_L_call [.ref 0, .int (16 : Int32), .int x2, .int x3, .int x4, .int x5] (79, e, mm_R0, I, J, A, B) = some (.inl (some (.int (-2000000001 : Int32))), (79, e', mm_R0, I', J', A', B')) := by
  rw [en_L_call, sg_L_call_0, en_L_does, sg_L_does_0, pc_L_does_16, sg_L_does_208, h]
  show mm_run (mm_pr tb_L_call) (14, [some (.ref 0), some (.int (16 : Int32)), some (.int x2), some (.int x3), some (.int x4), some (.int x5), none], [], _) = _
  rw [sg_L_call_14]
theorem wx_clocks_2 (x2 : Int32) (x3 : Int32) (x4 : Int32) (x5 : Int32) {e' : Nat} {I' : Nat → Nat → Int32} {J' : Nat → Nat → Int64} {A' : Nat → Nat → Int32} {B' : Nat → Nat → Int64} (h : f_X10_clocks [.ref 0, .int x2, .int x3, .int x4] (79, e, mm_R0, I, J, A, B) = some (.inr 2, (79, e', mm_R0, I', J', A', B'))) : f_L_call [.ref 0, .int (16 : Int32), .int x2, .int x3, .int x4, .int x5] (79, e, mm_R0, I, J, A, B) = some (.inl (some (.int (-2000000002 : Int32))), (79, e', mm_R0, I', J', A', B')) := by
  rw [en_L_call, sg_L_call_0, en_L_does, sg_L_does_0, pc_L_does_16, sg_L_does_208, h]
  show mm_run (mm_pr tb_L_call) (19, [some (.ref 0), some (.int (16 : Int32)), some (.int x2), some (.int x3), some (.int x4), some (.int x5), none], [], _) = _
  rw [sg_L_call_19]
theorem wx_clocks_3 (x2 : Int32) (x3 : Int32) (x4 : Int32) (x5 : Int32) {e' : Nat} {I' : Nat → Nat → Int32} {J' : Nat → Nat → Int64} {A' : Nat → Nat → Int32} {B' : Nat → Nat → Int64} (h : f_X10_clocks [.ref 0, .int x2, .int x3, .int x4] (79, e, mm_R0, I, J, A, B) = some (.inr 3, (79, e', mm_R0, I', J', A', B'))) : f_L_call [.ref 0, .int (16 : Int32), .int x2, .int x3, .int x4, .int x5] (79, e, mm_R0, I, J, A, B) = some (.inl (some (.int (-2000000003 : Int32))), (79, e', mm_R0, I', J', A', B')) := by
  rw [en_L_call, sg_L_call_0, en_L_does, sg_L_does_0, pc_L_does_16, sg_L_does_208, h]
  show mm_run (mm_pr tb_L_call) (24, [some (.ref 0), some (.int (16 : Int32)), some (.int x2), some (.int x3), some (.int x4), some (.int x5), none], [], _) = _
  rw [sg_L_call_24]
theorem pc_L_does_17 : (if ((17 : Int32)).toInt < 0 ∨ 20 < ((17 : Int32)).toInt then 243 else ([100, 109, 115, 120, 125, 131, 138, 145, 150, 155, 166, 180, 186, 193, 198, 203, 208, 218, 224, 231, 236] : List Nat).getD (((17 : Int32)).toInt - 0).toNat 243) = 218 := by decide +kernel
theorem wl_think (x2 : Int32) (x3 : Int32) (x4 : Int32) (x5 : Int32) {v : Int32} {e' : Nat} {I' : Nat → Nat → Int32} {J' : Nat → Nat → Int64} {A' : Nat → Nat → Int32} {B' : Nat → Nat → Int64} (h : f_X10_think [.ref 0, .int x2] (79, e, mm_R0, I, J, A, B) = some (.inl (some (.int v)), (79, e', mm_R0, I', J', A', B'))) : f_L_call [.ref 0, .int (17 : Int32), .int x2, .int x3, .int x4, .int x5] (79, e, mm_R0, I, J, A, B) = some (.inl (some (.int v)), (79, e', mm_R0, I', J', A', B')) := by
  rw [en_L_call, sg_L_call_0, en_L_does, sg_L_does_0, pc_L_does_17, sg_L_does_218, h]
  show mm_aftC _ _ _ _ _ (mm_run (mm_pr tb_L_does) (223, _, [.int v], _)) = _
  rw [sg_L_does_223]
  show mm_run (mm_pr tb_L_call) (11, _, [.int v], _) = _
  rw [sg_L_call_11]
theorem wx_think_1 (x2 : Int32) (x3 : Int32) (x4 : Int32) (x5 : Int32) {e' : Nat} {I' : Nat → Nat → Int32} {J' : Nat → Nat → Int64} {A' : Nat → Nat → Int32} {B' : Nat → Nat → Int64} (h : f_X10_think [.ref 0, .int x2] (79, e, mm_R0, I, J, A, B) = some (.inr 1, (79, e', mm_R0, I', J', A', B'))) : f_L_call [.ref 0, .int (17 : Int32), .int x2, .int x3, .int x4, .int x5] (79, e, mm_R0, I, J, A, B) = some (.inl (some (.int (-2000000001 : Int32))), (79, e', mm_R0, I', J', A', B')) := by
  rw [en_L_call, sg_L_call_0, en_L_does, sg_L_does_0, pc_L_does_17, sg_L_does_218, h]
  show mm_run (mm_pr tb_L_call) (14, [some (.ref 0), some (.int (17 : Int32)), some (.int x2), some (.int x3), some (.int x4), some (.int x5), none], [], _) = _
  rw [sg_L_call_14]
theorem wx_think_2 (x2 : Int32) (x3 : Int32) (x4 : Int32) (x5 : Int32) {e' : Nat} {I' : Nat → Nat → Int32} {J' : Nat → Nat → Int64} {A' : Nat → Nat → Int32} {B' : Nat → Nat → Int64} (h : f_X10_think [.ref 0, .int x2] (79, e, mm_R0, I, J, A, B) = some (.inr 2, (79, e', mm_R0, I', J', A', B'))) : f_L_call [.ref 0, .int (17 : Int32), .int x2, .int x3, .int x4, .int x5] (79, e, mm_R0, I, J, A, B) = some (.inl (some (.int (-2000000002 : Int32))), (79, e', mm_R0, I', J', A', B')) := by
  rw [en_L_call, sg_L_call_0, en_L_does, sg_L_does_0, pc_L_does_17, sg_L_does_218, h]
  show mm_run (mm_pr tb_L_call) (19, [some (.ref 0), some (.int (17 : Int32)), some (.int x2), some (.int x3), some (.int x4), some (.int x5), none], [], _) = _
  rw [sg_L_call_19]
theorem wx_think_3 (x2 : Int32) (x3 : Int32) (x4 : Int32) (x5 : Int32) {e' : Nat} {I' : Nat → Nat → Int32} {J' : Nat → Nat → Int64} {A' : Nat → Nat → Int32} {B' : Nat → Nat → Int64} (h : f_X10_think [.ref 0, .int x2] (79, e, mm_R0, I, J, A, B) = some (.inr 3, (79, e', mm_R0, I', J', A', B'))) : f_L_call [.ref 0, .int (17 : Int32), .int x2, .int x3, .int x4, .int x5] (79, e, mm_R0, I, J, A, B) = some (.inl (some (.int (-2000000003 : Int32))), (79, e', mm_R0, I', J', A', B')) := by
  rw [en_L_call, sg_L_call_0, en_L_does, sg_L_does_0, pc_L_does_17, sg_L_does_218, h]
  show mm_run (mm_pr tb_L_call) (24, [some (.ref 0), some (.int (17 : Int32)), some (.int x2), some (.int x3), some (.int x4), some (.int x5), none], [], _) = _
  rw [sg_L_call_24]
theorem pc_L_does_18 : (if ((18 : Int32)).toInt < 0 ∨ 20 < ((18 : Int32)).toInt then 243 else ([100, 109, 115, 120, 125, 131, 138, 145, 150, 155, 166, 180, 186, 193, 198, 203, 208, 218, 224, 231, 236] : List Nat).getD (((18 : Int32)).toInt - 0).toNat 243) = 224 := by decide +kernel
theorem wl_clock (x2 : Int32) (x3 : Int32) (x4 : Int32) (x5 : Int32) {v : Int32} {e' : Nat} {I' : Nat → Nat → Int32} {J' : Nat → Nat → Int64} {A' : Nat → Nat → Int32} {B' : Nat → Nat → Int64} (h : f_X10_clock [.ref 0, .int x2, .int x3] (79, e, mm_R0, I, J, A, B) = some (.inl (some (.int v)), (79, e', mm_R0, I', J', A', B'))) : f_L_call [.ref 0, .int (18 : Int32), .int x2, .int x3, .int x4, .int x5] (79, e, mm_R0, I, J, A, B) = some (.inl (some (.int v)), (79, e', mm_R0, I', J', A', B')) := by
  rw [en_L_call, sg_L_call_0, en_L_does, sg_L_does_0, pc_L_does_18, sg_L_does_224, h]
  show mm_aftC _ _ _ _ _ (mm_run (mm_pr tb_L_does) (230, _, [.int v], _)) = _
  rw [sg_L_does_230]
  show mm_run (mm_pr tb_L_call) (11, _, [.int v], _) = _
  rw [sg_L_call_11]
theorem wx_clock_1 (x2 : Int32) (x3 : Int32) (x4 : Int32) (x5 : Int32) {e' : Nat} {I' : Nat → Nat → Int32} {J' : Nat → Nat → Int64} {A' : Nat → Nat → Int32} {B' : Nat → Nat → Int64} (h : f_X10_clock [.ref 0, .int x2, .int x3] (79, e, mm_R0, I, J, A, B) = some (.inr 1, (79, e', mm_R0, I', J', A', B'))) : f_L_call [.ref 0, .int (18 : Int32), .int x2, .int x3, .int x4, .int x5] (79, e, mm_R0, I, J, A, B) = some (.inl (some (.int (-2000000001 : Int32))), (79, e', mm_R0, I', J', A', B')) := by
  rw [en_L_call, sg_L_call_0, en_L_does, sg_L_does_0, pc_L_does_18, sg_L_does_224, h]
  show mm_run (mm_pr tb_L_call) (14, [some (.ref 0), some (.int (18 : Int32)), some (.int x2), some (.int x3), some (.int x4), some (.int x5), none], [], _) = _
  rw [sg_L_call_14]
theorem wx_clock_2 (x2 : Int32) (x3 : Int32) (x4 : Int32) (x5 : Int32) {e' : Nat} {I' : Nat → Nat → Int32} {J' : Nat → Nat → Int64} {A' : Nat → Nat → Int32} {B' : Nat → Nat → Int64} (h : f_X10_clock [.ref 0, .int x2, .int x3] (79, e, mm_R0, I, J, A, B) = some (.inr 2, (79, e', mm_R0, I', J', A', B'))) : f_L_call [.ref 0, .int (18 : Int32), .int x2, .int x3, .int x4, .int x5] (79, e, mm_R0, I, J, A, B) = some (.inl (some (.int (-2000000002 : Int32))), (79, e', mm_R0, I', J', A', B')) := by
  rw [en_L_call, sg_L_call_0, en_L_does, sg_L_does_0, pc_L_does_18, sg_L_does_224, h]
  show mm_run (mm_pr tb_L_call) (19, [some (.ref 0), some (.int (18 : Int32)), some (.int x2), some (.int x3), some (.int x4), some (.int x5), none], [], _) = _
  rw [sg_L_call_19]
theorem wx_clock_3 (x2 : Int32) (x3 : Int32) (x4 : Int32) (x5 : Int32) {e' : Nat} {I' : Nat → Nat → Int32} {J' : Nat → Nat → Int64} {A' : Nat → Nat → Int32} {B' : Nat → Nat → Int64} (h : f_X10_clock [.ref 0, .int x2, .int x3] (79, e, mm_R0, I, J, A, B) = some (.inr 3, (79, e', mm_R0, I', J', A', B'))) : f_L_call [.ref 0, .int (18 : Int32), .int x2, .int x3, .int x4, .int x5] (79, e, mm_R0, I, J, A, B) = some (.inl (some (.int (-2000000003 : Int32))), (79, e', mm_R0, I', J', A', B')) := by
  rw [en_L_call, sg_L_call_0, en_L_does, sg_L_does_0, pc_L_does_18, sg_L_does_224, h]
  show mm_run (mm_pr tb_L_call) (24, [some (.ref 0), some (.int (18 : Int32)), some (.int x2), some (.int x3), some (.int x4), some (.int x5), none], [], _) = _
  rw [sg_L_call_24]
theorem pc_L_does_19 : (if ((19 : Int32)).toInt < 0 ∨ 20 < ((19 : Int32)).toInt then 243 else ([100, 109, 115, 120, 125, 131, 138, 145, 150, 155, 166, 180, 186, 193, 198, 203, 208, 218, 224, 231, 236] : List Nat).getD (((19 : Int32)).toInt - 0).toNat 243) = 231 := by decide +kernel
theorem wl_person (x2 : Int32) (x3 : Int32) (x4 : Int32) (x5 : Int32) {v : Int32} {e' : Nat} {I' : Nat → Nat → Int32} {J' : Nat → Nat → Int64} {A' : Nat → Nat → Int32} {B' : Nat → Nat → Int64} (h : f_X10_person [.ref 0] (79, e, mm_R0, I, J, A, B) = some (.inl (some (.int v)), (79, e', mm_R0, I', J', A', B'))) : f_L_call [.ref 0, .int (19 : Int32), .int x2, .int x3, .int x4, .int x5] (79, e, mm_R0, I, J, A, B) = some (.inl (some (.int v)), (79, e', mm_R0, I', J', A', B')) := by
  rw [en_L_call, sg_L_call_0, en_L_does, sg_L_does_0, pc_L_does_19, sg_L_does_231, h]
  show mm_aftC _ _ _ _ _ (mm_run (mm_pr tb_L_does) (235, _, [.int v], _)) = _
  rw [sg_L_does_235]
  show mm_run (mm_pr tb_L_call) (11, _, [.int v], _) = _
  rw [sg_L_call_11]
theorem wx_person_1 (x2 : Int32) (x3 : Int32) (x4 : Int32) (x5 : Int32) {e' : Nat} {I' : Nat → Nat → Int32} {J' : Nat → Nat → Int64} {A' : Nat → Nat → Int32} {B' : Nat → Nat → Int64} (h : f_X10_person [.ref 0] (79, e, mm_R0, I, J, A, B) = some (.inr 1, (79, e', mm_R0, I', J', A', B'))) : f_L_call [.ref 0, .int (19 : Int32), .int x2, .int x3, .int x4, .int x5] (79, e, mm_R0, I, J, A, B) = some (.inl (some (.int (-2000000001 : Int32))), (79, e', mm_R0, I', J', A', B')) := by
  rw [en_L_call, sg_L_call_0, en_L_does, sg_L_does_0, pc_L_does_19, sg_L_does_231, h]
  show mm_run (mm_pr tb_L_call) (14, [some (.ref 0), some (.int (19 : Int32)), some (.int x2), some (.int x3), some (.int x4), some (.int x5), none], [], _) = _
  rw [sg_L_call_14]
theorem wx_person_2 (x2 : Int32) (x3 : Int32) (x4 : Int32) (x5 : Int32) {e' : Nat} {I' : Nat → Nat → Int32} {J' : Nat → Nat → Int64} {A' : Nat → Nat → Int32} {B' : Nat → Nat → Int64} (h : f_X10_person [.ref 0] (79, e, mm_R0, I, J, A, B) = some (.inr 2, (79, e', mm_R0, I', J', A', B'))) : f_L_call [.ref 0, .int (19 : Int32), .int x2, .int x3, .int x4, .int x5] (79, e, mm_R0, I, J, A, B) = some (.inl (some (.int (-2000000002 : Int32))), (79, e', mm_R0, I', J', A', B')) := by
  rw [en_L_call, sg_L_call_0, en_L_does, sg_L_does_0, pc_L_does_19, sg_L_does_231, h]
  show mm_run (mm_pr tb_L_call) (19, [some (.ref 0), some (.int (19 : Int32)), some (.int x2), some (.int x3), some (.int x4), some (.int x5), none], [], _) = _
  rw [sg_L_call_19]
theorem wx_person_3 (x2 : Int32) (x3 : Int32) (x4 : Int32) (x5 : Int32) {e' : Nat} {I' : Nat → Nat → Int32} {J' : Nat → Nat → Int64} {A' : Nat → Nat → Int32} {B' : Nat → Nat → Int64} (h : f_X10_person [.ref 0] (79, e, mm_R0, I, J, A, B) = some (.inr 3, (79, e', mm_R0, I', J', A', B'))) : f_L_call [.ref 0, .int (19 : Int32), .int x2, .int x3, .int x4, .int x5] (79, e, mm_R0, I, J, A, B) = some (.inl (some (.int (-2000000003 : Int32))), (79, e', mm_R0, I', J', A', B')) := by
  rw [en_L_call, sg_L_call_0, en_L_does, sg_L_does_0, pc_L_does_19, sg_L_does_231, h]
  show mm_run (mm_pr tb_L_call) (24, [some (.ref 0), some (.int (19 : Int32)), some (.int x2), some (.int x3), some (.int x4), some (.int x5), none], [], _) = _
  rw [sg_L_call_24]
theorem pc_L_does_20 : (if ((20 : Int32)).toInt < 0 ∨ 20 < ((20 : Int32)).toInt then 243 else ([100, 109, 115, 120, 125, 131, 138, 145, 150, 155, 166, 180, 186, 193, 198, 203, 208, 218, 224, 231, 236] : List Nat).getD (((20 : Int32)).toInt - 0).toNat 243) = 236 := by decide +kernel
theorem wl_record (x2 : Int32) (x3 : Int32) (x4 : Int32) (x5 : Int32) {v : Int32} {e' : Nat} {I' : Nat → Nat → Int32} {J' : Nat → Nat → Int64} {A' : Nat → Nat → Int32} {B' : Nat → Nat → Int64} (h : f_X10_record [.ref 0, .int x2, .int x3] (79, e, mm_R0, I, J, A, B) = some (.inl (some (.int v)), (79, e', mm_R0, I', J', A', B'))) : f_L_call [.ref 0, .int (20 : Int32), .int x2, .int x3, .int x4, .int x5] (79, e, mm_R0, I, J, A, B) = some (.inl (some (.int v)), (79, e', mm_R0, I', J', A', B')) := by
  rw [en_L_call, sg_L_call_0, en_L_does, sg_L_does_0, pc_L_does_20, sg_L_does_236, h]
  show mm_aftC _ _ _ _ _ (mm_run (mm_pr tb_L_does) (242, _, [.int v], _)) = _
  rw [sg_L_does_242]
  show mm_run (mm_pr tb_L_call) (11, _, [.int v], _) = _
  rw [sg_L_call_11]
theorem wx_record_1 (x2 : Int32) (x3 : Int32) (x4 : Int32) (x5 : Int32) {e' : Nat} {I' : Nat → Nat → Int32} {J' : Nat → Nat → Int64} {A' : Nat → Nat → Int32} {B' : Nat → Nat → Int64} (h : f_X10_record [.ref 0, .int x2, .int x3] (79, e, mm_R0, I, J, A, B) = some (.inr 1, (79, e', mm_R0, I', J', A', B'))) : f_L_call [.ref 0, .int (20 : Int32), .int x2, .int x3, .int x4, .int x5] (79, e, mm_R0, I, J, A, B) = some (.inl (some (.int (-2000000001 : Int32))), (79, e', mm_R0, I', J', A', B')) := by
  rw [en_L_call, sg_L_call_0, en_L_does, sg_L_does_0, pc_L_does_20, sg_L_does_236, h]
  show mm_run (mm_pr tb_L_call) (14, [some (.ref 0), some (.int (20 : Int32)), some (.int x2), some (.int x3), some (.int x4), some (.int x5), none], [], _) = _
  rw [sg_L_call_14]
theorem wx_record_2 (x2 : Int32) (x3 : Int32) (x4 : Int32) (x5 : Int32) {e' : Nat} {I' : Nat → Nat → Int32} {J' : Nat → Nat → Int64} {A' : Nat → Nat → Int32} {B' : Nat → Nat → Int64} (h : f_X10_record [.ref 0, .int x2, .int x3] (79, e, mm_R0, I, J, A, B) = some (.inr 2, (79, e', mm_R0, I', J', A', B'))) : f_L_call [.ref 0, .int (20 : Int32), .int x2, .int x3, .int x4, .int x5] (79, e, mm_R0, I, J, A, B) = some (.inl (some (.int (-2000000002 : Int32))), (79, e', mm_R0, I', J', A', B')) := by
  rw [en_L_call, sg_L_call_0, en_L_does, sg_L_does_0, pc_L_does_20, sg_L_does_236, h]
  show mm_run (mm_pr tb_L_call) (19, [some (.ref 0), some (.int (20 : Int32)), some (.int x2), some (.int x3), some (.int x4), some (.int x5), none], [], _) = _
  rw [sg_L_call_19]
theorem wx_record_3 (x2 : Int32) (x3 : Int32) (x4 : Int32) (x5 : Int32) {e' : Nat} {I' : Nat → Nat → Int32} {J' : Nat → Nat → Int64} {A' : Nat → Nat → Int32} {B' : Nat → Nat → Int64} (h : f_X10_record [.ref 0, .int x2, .int x3] (79, e, mm_R0, I, J, A, B) = some (.inr 3, (79, e', mm_R0, I', J', A', B'))) : f_L_call [.ref 0, .int (20 : Int32), .int x2, .int x3, .int x4, .int x5] (79, e, mm_R0, I, J, A, B) = some (.inl (some (.int (-2000000003 : Int32))), (79, e', mm_R0, I', J', A', B')) := by
  rw [en_L_call, sg_L_call_0, en_L_does, sg_L_does_0, pc_L_does_20, sg_L_does_236, h]
  show mm_run (mm_pr tb_L_call) (24, [some (.ref 0), some (.int (20 : Int32)), some (.int x2), some (.int x3), some (.int x4), some (.int x5), none], [], _) = _
  rw [sg_L_call_24]
theorem pc_L_does_21 : (if ((21 : Int32)).toInt < 0 ∨ 20 < ((21 : Int32)).toInt then 243 else ([100, 109, 115, 120, 125, 131, 138, 145, 150, 155, 166, 180, 186, 193, 198, 203, 208, 218, 224, 231, 236] : List Nat).getD (((21 : Int32)).toInt - 0).toNat 243) = 243 := by decide +kernel
theorem wl_ofPerson (x2 : Int32) (x3 : Int32) (x4 : Int32) (x5 : Int32) {v : Int32} {e' : Nat} {I' : Nat → Nat → Int32} {J' : Nat → Nat → Int64} {A' : Nat → Nat → Int32} {B' : Nat → Nat → Int64} (h : f_X10_ofPerson [.ref 0, .int x2, .int x3] (79, e, mm_R0, I, J, A, B) = some (.inl (some (.int v)), (79, e', mm_R0, I', J', A', B'))) : f_L_call [.ref 0, .int (21 : Int32), .int x2, .int x3, .int x4, .int x5] (79, e, mm_R0, I, J, A, B) = some (.inl (some (.int v)), (79, e', mm_R0, I', J', A', B')) := by
  rw [en_L_call, sg_L_call_0, en_L_does, sg_L_does_0, pc_L_does_21, sg_L_does_243, h]
  show mm_aftC _ _ _ _ _ (mm_run (mm_pr tb_L_does) (249, _, [.int v], _)) = _
  rw [sg_L_does_249]
  show mm_run (mm_pr tb_L_call) (11, _, [.int v], _) = _
  rw [sg_L_call_11]
theorem wx_ofPerson_1 (x2 : Int32) (x3 : Int32) (x4 : Int32) (x5 : Int32) {e' : Nat} {I' : Nat → Nat → Int32} {J' : Nat → Nat → Int64} {A' : Nat → Nat → Int32} {B' : Nat → Nat → Int64} (h : f_X10_ofPerson [.ref 0, .int x2, .int x3] (79, e, mm_R0, I, J, A, B) = some (.inr 1, (79, e', mm_R0, I', J', A', B'))) : f_L_call [.ref 0, .int (21 : Int32), .int x2, .int x3, .int x4, .int x5] (79, e, mm_R0, I, J, A, B) = some (.inl (some (.int (-2000000001 : Int32))), (79, e', mm_R0, I', J', A', B')) := by
  rw [en_L_call, sg_L_call_0, en_L_does, sg_L_does_0, pc_L_does_21, sg_L_does_243, h]
  show mm_run (mm_pr tb_L_call) (14, [some (.ref 0), some (.int (21 : Int32)), some (.int x2), some (.int x3), some (.int x4), some (.int x5), none], [], _) = _
  rw [sg_L_call_14]
theorem wx_ofPerson_2 (x2 : Int32) (x3 : Int32) (x4 : Int32) (x5 : Int32) {e' : Nat} {I' : Nat → Nat → Int32} {J' : Nat → Nat → Int64} {A' : Nat → Nat → Int32} {B' : Nat → Nat → Int64} (h : f_X10_ofPerson [.ref 0, .int x2, .int x3] (79, e, mm_R0, I, J, A, B) = some (.inr 2, (79, e', mm_R0, I', J', A', B'))) : f_L_call [.ref 0, .int (21 : Int32), .int x2, .int x3, .int x4, .int x5] (79, e, mm_R0, I, J, A, B) = some (.inl (some (.int (-2000000002 : Int32))), (79, e', mm_R0, I', J', A', B')) := by
  rw [en_L_call, sg_L_call_0, en_L_does, sg_L_does_0, pc_L_does_21, sg_L_does_243, h]
  show mm_run (mm_pr tb_L_call) (19, [some (.ref 0), some (.int (21 : Int32)), some (.int x2), some (.int x3), some (.int x4), some (.int x5), none], [], _) = _
  rw [sg_L_call_19]
theorem wx_ofPerson_3 (x2 : Int32) (x3 : Int32) (x4 : Int32) (x5 : Int32) {e' : Nat} {I' : Nat → Nat → Int32} {J' : Nat → Nat → Int64} {A' : Nat → Nat → Int32} {B' : Nat → Nat → Int64} (h : f_X10_ofPerson [.ref 0, .int x2, .int x3] (79, e, mm_R0, I, J, A, B) = some (.inr 3, (79, e', mm_R0, I', J', A', B'))) : f_L_call [.ref 0, .int (21 : Int32), .int x2, .int x3, .int x4, .int x5] (79, e, mm_R0, I, J, A, B) = some (.inl (some (.int (-2000000003 : Int32))), (79, e', mm_R0, I', J', A', B')) := by
  rw [en_L_call, sg_L_call_0, en_L_does, sg_L_does_0, pc_L_does_21, sg_L_does_243, h]
  show mm_run (mm_pr tb_L_call) (24, [some (.ref 0), some (.int (21 : Int32)), some (.int x2), some (.int x3), some (.int x4), some (.int x5), none], [], _) = _
  rw [sg_L_call_24]
theorem pc_L_finds_0 : (if ((0 : Int32)).toInt < 0 ∨ 4 < ((0 : Int32)).toInt then 68 else ([36, 41, 46, 55, 61] : List Nat).getD (((0 : Int32)).toInt - 0).toNat 68) = 36 := by decide +kernel
theorem wl_wins (x2 : Int32) (x3 : Int32) (x4 : Int32) {v : Int64} {e' : Nat} {I' : Nat → Nat → Int32} {J' : Nat → Nat → Int64} {A' : Nat → Nat → Int32} {B' : Nat → Nat → Int64} (h : f_X10_wins [.ref 0] (79, e, mm_R0, I, J, A, B) = some (.inl (some (.long v)), (79, e', mm_R0, I', J', A', B'))) : f_L_set [.ref 0, .int (0 : Int32), .int x2, .int x3, .int x4] (79, e, mm_R0, I, J, A, B) = some (.inl (some (.long v)), (79, e', mm_R0, I', J', A', B')) := by
  rw [en_L_set, sg_L_set_0, en_L_finds, sg_L_finds_0, pc_L_finds_0, sg_L_finds_36, h]
  show mm_aftC _ _ _ _ _ (mm_run (mm_pr tb_L_finds) (40, _, [.long v], _)) = _
  rw [sg_L_finds_40]
  show mm_run (mm_pr tb_L_set) (9, _, [.long v], _) = _
  rw [sg_L_set_9]
theorem wx_wins_1 (x2 : Int32) (x3 : Int32) (x4 : Int32) {e' : Nat} {I' : Nat → Nat → Int32} {J' : Nat → Nat → Int64} {A' : Nat → Nat → Int32} {B' : Nat → Nat → Int64} (h : f_X10_wins [.ref 0] (79, e, mm_R0, I, J, A, B) = some (.inr 1, (79, e', mm_R0, I', J', A', B'))) : f_L_set [.ref 0, .int (0 : Int32), .int x2, .int x3, .int x4] (79, e, mm_R0, I, J, A, B) = some (.inl (some (.long (-2000000001 : Int64))), (79, e', mm_R0, I', J', A', B')) := by
  rw [en_L_set, sg_L_set_0, en_L_finds, sg_L_finds_0, pc_L_finds_0, sg_L_finds_36, h]
  show mm_run (mm_pr tb_L_set) (12, [some (.ref 0), some (.int (0 : Int32)), some (.int x2), some (.int x3), some (.int x4), none], [], _) = _
  rw [sg_L_set_12]
theorem wx_wins_2 (x2 : Int32) (x3 : Int32) (x4 : Int32) {e' : Nat} {I' : Nat → Nat → Int32} {J' : Nat → Nat → Int64} {A' : Nat → Nat → Int32} {B' : Nat → Nat → Int64} (h : f_X10_wins [.ref 0] (79, e, mm_R0, I, J, A, B) = some (.inr 2, (79, e', mm_R0, I', J', A', B'))) : f_L_set [.ref 0, .int (0 : Int32), .int x2, .int x3, .int x4] (79, e, mm_R0, I, J, A, B) = some (.inl (some (.long (-2000000002 : Int64))), (79, e', mm_R0, I', J', A', B')) := by
  rw [en_L_set, sg_L_set_0, en_L_finds, sg_L_finds_0, pc_L_finds_0, sg_L_finds_36, h]
  show mm_run (mm_pr tb_L_set) (18, [some (.ref 0), some (.int (0 : Int32)), some (.int x2), some (.int x3), some (.int x4), none], [], _) = _
  rw [sg_L_set_18]
theorem wx_wins_3 (x2 : Int32) (x3 : Int32) (x4 : Int32) {e' : Nat} {I' : Nat → Nat → Int32} {J' : Nat → Nat → Int64} {A' : Nat → Nat → Int32} {B' : Nat → Nat → Int64} (h : f_X10_wins [.ref 0] (79, e, mm_R0, I, J, A, B) = some (.inr 3, (79, e', mm_R0, I', J', A', B'))) : f_L_set [.ref 0, .int (0 : Int32), .int x2, .int x3, .int x4] (79, e, mm_R0, I, J, A, B) = some (.inl (some (.long (-2000000003 : Int64))), (79, e', mm_R0, I', J', A', B')) := by
  rw [en_L_set, sg_L_set_0, en_L_finds, sg_L_finds_0, pc_L_finds_0, sg_L_finds_36, h]
  show mm_run (mm_pr tb_L_set) (24, [some (.ref 0), some (.int (0 : Int32)), some (.int x2), some (.int x3), some (.int x4), none], [], _) = _
  rw [sg_L_set_24]
theorem pc_L_finds_1 : (if ((1 : Int32)).toInt < 0 ∨ 4 < ((1 : Int32)).toInt then 68 else ([36, 41, 46, 55, 61] : List Nat).getD (((1 : Int32)).toInt - 0).toNat 68) = 41 := by decide +kernel
theorem wl_dead (x2 : Int32) (x3 : Int32) (x4 : Int32) {v : Int64} {e' : Nat} {I' : Nat → Nat → Int32} {J' : Nat → Nat → Int64} {A' : Nat → Nat → Int32} {B' : Nat → Nat → Int64} (h : f_X10_dead [.ref 0] (79, e, mm_R0, I, J, A, B) = some (.inl (some (.long v)), (79, e', mm_R0, I', J', A', B'))) : f_L_set [.ref 0, .int (1 : Int32), .int x2, .int x3, .int x4] (79, e, mm_R0, I, J, A, B) = some (.inl (some (.long v)), (79, e', mm_R0, I', J', A', B')) := by
  rw [en_L_set, sg_L_set_0, en_L_finds, sg_L_finds_0, pc_L_finds_1, sg_L_finds_41, h]
  show mm_aftC _ _ _ _ _ (mm_run (mm_pr tb_L_finds) (45, _, [.long v], _)) = _
  rw [sg_L_finds_45]
  show mm_run (mm_pr tb_L_set) (9, _, [.long v], _) = _
  rw [sg_L_set_9]
theorem wx_dead_1 (x2 : Int32) (x3 : Int32) (x4 : Int32) {e' : Nat} {I' : Nat → Nat → Int32} {J' : Nat → Nat → Int64} {A' : Nat → Nat → Int32} {B' : Nat → Nat → Int64} (h : f_X10_dead [.ref 0] (79, e, mm_R0, I, J, A, B) = some (.inr 1, (79, e', mm_R0, I', J', A', B'))) : f_L_set [.ref 0, .int (1 : Int32), .int x2, .int x3, .int x4] (79, e, mm_R0, I, J, A, B) = some (.inl (some (.long (-2000000001 : Int64))), (79, e', mm_R0, I', J', A', B')) := by
  rw [en_L_set, sg_L_set_0, en_L_finds, sg_L_finds_0, pc_L_finds_1, sg_L_finds_41, h]
  show mm_run (mm_pr tb_L_set) (12, [some (.ref 0), some (.int (1 : Int32)), some (.int x2), some (.int x3), some (.int x4), none], [], _) = _
  rw [sg_L_set_12]
theorem wx_dead_2 (x2 : Int32) (x3 : Int32) (x4 : Int32) {e' : Nat} {I' : Nat → Nat → Int32} {J' : Nat → Nat → Int64} {A' : Nat → Nat → Int32} {B' : Nat → Nat → Int64} (h : f_X10_dead [.ref 0] (79, e, mm_R0, I, J, A, B) = some (.inr 2, (79, e', mm_R0, I', J', A', B'))) : f_L_set [.ref 0, .int (1 : Int32), .int x2, .int x3, .int x4] (79, e, mm_R0, I, J, A, B) = some (.inl (some (.long (-2000000002 : Int64))), (79, e', mm_R0, I', J', A', B')) := by
  rw [en_L_set, sg_L_set_0, en_L_finds, sg_L_finds_0, pc_L_finds_1, sg_L_finds_41, h]
  show mm_run (mm_pr tb_L_set) (18, [some (.ref 0), some (.int (1 : Int32)), some (.int x2), some (.int x3), some (.int x4), none], [], _) = _
  rw [sg_L_set_18]
theorem wx_dead_3 (x2 : Int32) (x3 : Int32) (x4 : Int32) {e' : Nat} {I' : Nat → Nat → Int32} {J' : Nat → Nat → Int64} {A' : Nat → Nat → Int32} {B' : Nat → Nat → Int64} (h : f_X10_dead [.ref 0] (79, e, mm_R0, I, J, A, B) = some (.inr 3, (79, e', mm_R0, I', J', A', B'))) : f_L_set [.ref 0, .int (1 : Int32), .int x2, .int x3, .int x4] (79, e, mm_R0, I, J, A, B) = some (.inl (some (.long (-2000000003 : Int64))), (79, e', mm_R0, I', J', A', B')) := by
  rw [en_L_set, sg_L_set_0, en_L_finds, sg_L_finds_0, pc_L_finds_1, sg_L_finds_41, h]
  show mm_run (mm_pr tb_L_set) (24, [some (.ref 0), some (.int (1 : Int32)), some (.int x2), some (.int x3), some (.int x4), none], [], _) = _
  rw [sg_L_set_24]
theorem pc_L_finds_2 : (if ((2 : Int32)).toInt < 0 ∨ 4 < ((2 : Int32)).toInt then 68 else ([36, 41, 46, 55, 61] : List Nat).getD (((2 : Int32)).toInt - 0).toNat 68) = 46 := by decide +kernel
theorem wl_carrier (x2 : Int32) (x3 : Int32) (x4 : Int32) {v : Int64} {e' : Nat} {I' : Nat → Nat → Int32} {J' : Nat → Nat → Int64} {A' : Nat → Nat → Int32} {B' : Nat → Nat → Int64} (h : f_X10_carrier [.ref 0, .int x2, .int x3, .int x4] (79, e, mm_R0, I, J, A, B) = some (.inl (some (.long v)), (79, e', mm_R0, I', J', A', B'))) : f_L_set [.ref 0, .int (2 : Int32), .int x2, .int x3, .int x4] (79, e, mm_R0, I, J, A, B) = some (.inl (some (.long v)), (79, e', mm_R0, I', J', A', B')) := by
  rw [en_L_set, sg_L_set_0, en_L_finds, sg_L_finds_0, pc_L_finds_2, sg_L_finds_46, h]
  show mm_aftC _ _ _ _ _ (mm_run (mm_pr tb_L_finds) (54, _, [.long v], _)) = _
  rw [sg_L_finds_54]
  show mm_run (mm_pr tb_L_set) (9, _, [.long v], _) = _
  rw [sg_L_set_9]
theorem wx_carrier_1 (x2 : Int32) (x3 : Int32) (x4 : Int32) {e' : Nat} {I' : Nat → Nat → Int32} {J' : Nat → Nat → Int64} {A' : Nat → Nat → Int32} {B' : Nat → Nat → Int64} (h : f_X10_carrier [.ref 0, .int x2, .int x3, .int x4] (79, e, mm_R0, I, J, A, B) = some (.inr 1, (79, e', mm_R0, I', J', A', B'))) : f_L_set [.ref 0, .int (2 : Int32), .int x2, .int x3, .int x4] (79, e, mm_R0, I, J, A, B) = some (.inl (some (.long (-2000000001 : Int64))), (79, e', mm_R0, I', J', A', B')) := by
  rw [en_L_set, sg_L_set_0, en_L_finds, sg_L_finds_0, pc_L_finds_2, sg_L_finds_46, h]
  show mm_run (mm_pr tb_L_set) (12, [some (.ref 0), some (.int (2 : Int32)), some (.int x2), some (.int x3), some (.int x4), none], [], _) = _
  rw [sg_L_set_12]
theorem wx_carrier_2 (x2 : Int32) (x3 : Int32) (x4 : Int32) {e' : Nat} {I' : Nat → Nat → Int32} {J' : Nat → Nat → Int64} {A' : Nat → Nat → Int32} {B' : Nat → Nat → Int64} (h : f_X10_carrier [.ref 0, .int x2, .int x3, .int x4] (79, e, mm_R0, I, J, A, B) = some (.inr 2, (79, e', mm_R0, I', J', A', B'))) : f_L_set [.ref 0, .int (2 : Int32), .int x2, .int x3, .int x4] (79, e, mm_R0, I, J, A, B) = some (.inl (some (.long (-2000000002 : Int64))), (79, e', mm_R0, I', J', A', B')) := by
  rw [en_L_set, sg_L_set_0, en_L_finds, sg_L_finds_0, pc_L_finds_2, sg_L_finds_46, h]
  show mm_run (mm_pr tb_L_set) (18, [some (.ref 0), some (.int (2 : Int32)), some (.int x2), some (.int x3), some (.int x4), none], [], _) = _
  rw [sg_L_set_18]
theorem wx_carrier_3 (x2 : Int32) (x3 : Int32) (x4 : Int32) {e' : Nat} {I' : Nat → Nat → Int32} {J' : Nat → Nat → Int64} {A' : Nat → Nat → Int32} {B' : Nat → Nat → Int64} (h : f_X10_carrier [.ref 0, .int x2, .int x3, .int x4] (79, e, mm_R0, I, J, A, B) = some (.inr 3, (79, e', mm_R0, I', J', A', B'))) : f_L_set [.ref 0, .int (2 : Int32), .int x2, .int x3, .int x4] (79, e, mm_R0, I, J, A, B) = some (.inl (some (.long (-2000000003 : Int64))), (79, e', mm_R0, I', J', A', B')) := by
  rw [en_L_set, sg_L_set_0, en_L_finds, sg_L_finds_0, pc_L_finds_2, sg_L_finds_46, h]
  show mm_run (mm_pr tb_L_set) (24, [some (.ref 0), some (.int (2 : Int32)), some (.int x2), some (.int x3), some (.int x4), none], [], _) = _
  rw [sg_L_set_24]
theorem pc_L_finds_3 : (if ((3 : Int32)).toInt < 0 ∨ 4 < ((3 : Int32)).toInt then 68 else ([36, 41, 46, 55, 61] : List Nat).getD (((3 : Int32)).toInt - 0).toNat 68) = 55 := by decide +kernel
theorem wl_playedOut (x2 : Int32) (x3 : Int32) (x4 : Int32) {v : Int64} {e' : Nat} {I' : Nat → Nat → Int32} {J' : Nat → Nat → Int64} {A' : Nat → Nat → Int32} {B' : Nat → Nat → Int64} (h : f_X10_playedOut [.ref 0, .int x2] (79, e, mm_R0, I, J, A, B) = some (.inl (some (.long v)), (79, e', mm_R0, I', J', A', B'))) : f_L_set [.ref 0, .int (3 : Int32), .int x2, .int x3, .int x4] (79, e, mm_R0, I, J, A, B) = some (.inl (some (.long v)), (79, e', mm_R0, I', J', A', B')) := by
  rw [en_L_set, sg_L_set_0, en_L_finds, sg_L_finds_0, pc_L_finds_3, sg_L_finds_55, h]
  show mm_aftC _ _ _ _ _ (mm_run (mm_pr tb_L_finds) (60, _, [.long v], _)) = _
  rw [sg_L_finds_60]
  show mm_run (mm_pr tb_L_set) (9, _, [.long v], _) = _
  rw [sg_L_set_9]
theorem wx_playedOut_1 (x2 : Int32) (x3 : Int32) (x4 : Int32) {e' : Nat} {I' : Nat → Nat → Int32} {J' : Nat → Nat → Int64} {A' : Nat → Nat → Int32} {B' : Nat → Nat → Int64} (h : f_X10_playedOut [.ref 0, .int x2] (79, e, mm_R0, I, J, A, B) = some (.inr 1, (79, e', mm_R0, I', J', A', B'))) : f_L_set [.ref 0, .int (3 : Int32), .int x2, .int x3, .int x4] (79, e, mm_R0, I, J, A, B) = some (.inl (some (.long (-2000000001 : Int64))), (79, e', mm_R0, I', J', A', B')) := by
  rw [en_L_set, sg_L_set_0, en_L_finds, sg_L_finds_0, pc_L_finds_3, sg_L_finds_55, h]
  show mm_run (mm_pr tb_L_set) (12, [some (.ref 0), some (.int (3 : Int32)), some (.int x2), some (.int x3), some (.int x4), none], [], _) = _
  rw [sg_L_set_12]
theorem wx_playedOut_2 (x2 : Int32) (x3 : Int32) (x4 : Int32) {e' : Nat} {I' : Nat → Nat → Int32} {J' : Nat → Nat → Int64} {A' : Nat → Nat → Int32} {B' : Nat → Nat → Int64} (h : f_X10_playedOut [.ref 0, .int x2] (79, e, mm_R0, I, J, A, B) = some (.inr 2, (79, e', mm_R0, I', J', A', B'))) : f_L_set [.ref 0, .int (3 : Int32), .int x2, .int x3, .int x4] (79, e, mm_R0, I, J, A, B) = some (.inl (some (.long (-2000000002 : Int64))), (79, e', mm_R0, I', J', A', B')) := by
  rw [en_L_set, sg_L_set_0, en_L_finds, sg_L_finds_0, pc_L_finds_3, sg_L_finds_55, h]
  show mm_run (mm_pr tb_L_set) (18, [some (.ref 0), some (.int (3 : Int32)), some (.int x2), some (.int x3), some (.int x4), none], [], _) = _
  rw [sg_L_set_18]
theorem wx_playedOut_3 (x2 : Int32) (x3 : Int32) (x4 : Int32) {e' : Nat} {I' : Nat → Nat → Int32} {J' : Nat → Nat → Int64} {A' : Nat → Nat → Int32} {B' : Nat → Nat → Int64} (h : f_X10_playedOut [.ref 0, .int x2] (79, e, mm_R0, I, J, A, B) = some (.inr 3, (79, e', mm_R0, I', J', A', B'))) : f_L_set [.ref 0, .int (3 : Int32), .int x2, .int x3, .int x4] (79, e, mm_R0, I, J, A, B) = some (.inl (some (.long (-2000000003 : Int64))), (79, e', mm_R0, I', J', A', B')) := by
  rw [en_L_set, sg_L_set_0, en_L_finds, sg_L_finds_0, pc_L_finds_3, sg_L_finds_55, h]
  show mm_run (mm_pr tb_L_set) (24, [some (.ref 0), some (.int (3 : Int32)), some (.int x2), some (.int x3), some (.int x4), none], [], _) = _
  rw [sg_L_set_24]
theorem pc_L_finds_4 : (if ((4 : Int32)).toInt < 0 ∨ 4 < ((4 : Int32)).toInt then 68 else ([36, 41, 46, 55, 61] : List Nat).getD (((4 : Int32)).toInt - 0).toNat 68) = 61 := by decide +kernel
theorem wl_fits (x2 : Int32) (x3 : Int32) (x4 : Int32) {v : Int64} {e' : Nat} {I' : Nat → Nat → Int32} {J' : Nat → Nat → Int64} {A' : Nat → Nat → Int32} {B' : Nat → Nat → Int64} (h : f_X10_fits [.ref 0, .int x2, .int x3] (79, e, mm_R0, I, J, A, B) = some (.inl (some (.long v)), (79, e', mm_R0, I', J', A', B'))) : f_L_set [.ref 0, .int (4 : Int32), .int x2, .int x3, .int x4] (79, e, mm_R0, I, J, A, B) = some (.inl (some (.long v)), (79, e', mm_R0, I', J', A', B')) := by
  rw [en_L_set, sg_L_set_0, en_L_finds, sg_L_finds_0, pc_L_finds_4, sg_L_finds_61, h]
  show mm_aftC _ _ _ _ _ (mm_run (mm_pr tb_L_finds) (67, _, [.long v], _)) = _
  rw [sg_L_finds_67]
  show mm_run (mm_pr tb_L_set) (9, _, [.long v], _) = _
  rw [sg_L_set_9]
theorem wx_fits_1 (x2 : Int32) (x3 : Int32) (x4 : Int32) {e' : Nat} {I' : Nat → Nat → Int32} {J' : Nat → Nat → Int64} {A' : Nat → Nat → Int32} {B' : Nat → Nat → Int64} (h : f_X10_fits [.ref 0, .int x2, .int x3] (79, e, mm_R0, I, J, A, B) = some (.inr 1, (79, e', mm_R0, I', J', A', B'))) : f_L_set [.ref 0, .int (4 : Int32), .int x2, .int x3, .int x4] (79, e, mm_R0, I, J, A, B) = some (.inl (some (.long (-2000000001 : Int64))), (79, e', mm_R0, I', J', A', B')) := by
  rw [en_L_set, sg_L_set_0, en_L_finds, sg_L_finds_0, pc_L_finds_4, sg_L_finds_61, h]
  show mm_run (mm_pr tb_L_set) (12, [some (.ref 0), some (.int (4 : Int32)), some (.int x2), some (.int x3), some (.int x4), none], [], _) = _
  rw [sg_L_set_12]
theorem wx_fits_2 (x2 : Int32) (x3 : Int32) (x4 : Int32) {e' : Nat} {I' : Nat → Nat → Int32} {J' : Nat → Nat → Int64} {A' : Nat → Nat → Int32} {B' : Nat → Nat → Int64} (h : f_X10_fits [.ref 0, .int x2, .int x3] (79, e, mm_R0, I, J, A, B) = some (.inr 2, (79, e', mm_R0, I', J', A', B'))) : f_L_set [.ref 0, .int (4 : Int32), .int x2, .int x3, .int x4] (79, e, mm_R0, I, J, A, B) = some (.inl (some (.long (-2000000002 : Int64))), (79, e', mm_R0, I', J', A', B')) := by
  rw [en_L_set, sg_L_set_0, en_L_finds, sg_L_finds_0, pc_L_finds_4, sg_L_finds_61, h]
  show mm_run (mm_pr tb_L_set) (18, [some (.ref 0), some (.int (4 : Int32)), some (.int x2), some (.int x3), some (.int x4), none], [], _) = _
  rw [sg_L_set_18]
theorem wx_fits_3 (x2 : Int32) (x3 : Int32) (x4 : Int32) {e' : Nat} {I' : Nat → Nat → Int32} {J' : Nat → Nat → Int64} {A' : Nat → Nat → Int32} {B' : Nat → Nat → Int64} (h : f_X10_fits [.ref 0, .int x2, .int x3] (79, e, mm_R0, I, J, A, B) = some (.inr 3, (79, e', mm_R0, I', J', A', B'))) : f_L_set [.ref 0, .int (4 : Int32), .int x2, .int x3, .int x4] (79, e, mm_R0, I, J, A, B) = some (.inl (some (.long (-2000000003 : Int64))), (79, e', mm_R0, I', J', A', B')) := by
  rw [en_L_set, sg_L_set_0, en_L_finds, sg_L_finds_0, pc_L_finds_4, sg_L_finds_61, h]
  show mm_run (mm_pr tb_L_set) (24, [some (.ref 0), some (.int (4 : Int32)), some (.int x2), some (.int x3), some (.int x4), none], [], _) = _
  rw [sg_L_set_24]
theorem pc_L_finds_5 : (if ((5 : Int32)).toInt < 0 ∨ 4 < ((5 : Int32)).toInt then 68 else ([36, 41, 46, 55, 61] : List Nat).getD (((5 : Int32)).toInt - 0).toNat 68) = 68 := by decide +kernel
theorem wl_fitsAnew (x2 : Int32) (x3 : Int32) (x4 : Int32) {v : Int64} {e' : Nat} {I' : Nat → Nat → Int32} {J' : Nat → Nat → Int64} {A' : Nat → Nat → Int32} {B' : Nat → Nat → Int64} (h : f_X10_fitsAnew [.ref 0, .int x2, .int x3] (79, e, mm_R0, I, J, A, B) = some (.inl (some (.long v)), (79, e', mm_R0, I', J', A', B'))) : f_L_set [.ref 0, .int (5 : Int32), .int x2, .int x3, .int x4] (79, e, mm_R0, I, J, A, B) = some (.inl (some (.long v)), (79, e', mm_R0, I', J', A', B')) := by
  rw [en_L_set, sg_L_set_0, en_L_finds, sg_L_finds_0, pc_L_finds_5, sg_L_finds_68, h]
  show mm_aftC _ _ _ _ _ (mm_run (mm_pr tb_L_finds) (74, _, [.long v], _)) = _
  rw [sg_L_finds_74]
  show mm_run (mm_pr tb_L_set) (9, _, [.long v], _) = _
  rw [sg_L_set_9]
theorem wx_fitsAnew_1 (x2 : Int32) (x3 : Int32) (x4 : Int32) {e' : Nat} {I' : Nat → Nat → Int32} {J' : Nat → Nat → Int64} {A' : Nat → Nat → Int32} {B' : Nat → Nat → Int64} (h : f_X10_fitsAnew [.ref 0, .int x2, .int x3] (79, e, mm_R0, I, J, A, B) = some (.inr 1, (79, e', mm_R0, I', J', A', B'))) : f_L_set [.ref 0, .int (5 : Int32), .int x2, .int x3, .int x4] (79, e, mm_R0, I, J, A, B) = some (.inl (some (.long (-2000000001 : Int64))), (79, e', mm_R0, I', J', A', B')) := by
  rw [en_L_set, sg_L_set_0, en_L_finds, sg_L_finds_0, pc_L_finds_5, sg_L_finds_68, h]
  show mm_run (mm_pr tb_L_set) (12, [some (.ref 0), some (.int (5 : Int32)), some (.int x2), some (.int x3), some (.int x4), none], [], _) = _
  rw [sg_L_set_12]
theorem wx_fitsAnew_2 (x2 : Int32) (x3 : Int32) (x4 : Int32) {e' : Nat} {I' : Nat → Nat → Int32} {J' : Nat → Nat → Int64} {A' : Nat → Nat → Int32} {B' : Nat → Nat → Int64} (h : f_X10_fitsAnew [.ref 0, .int x2, .int x3] (79, e, mm_R0, I, J, A, B) = some (.inr 2, (79, e', mm_R0, I', J', A', B'))) : f_L_set [.ref 0, .int (5 : Int32), .int x2, .int x3, .int x4] (79, e, mm_R0, I, J, A, B) = some (.inl (some (.long (-2000000002 : Int64))), (79, e', mm_R0, I', J', A', B')) := by
  rw [en_L_set, sg_L_set_0, en_L_finds, sg_L_finds_0, pc_L_finds_5, sg_L_finds_68, h]
  show mm_run (mm_pr tb_L_set) (18, [some (.ref 0), some (.int (5 : Int32)), some (.int x2), some (.int x3), some (.int x4), none], [], _) = _
  rw [sg_L_set_18]
theorem wx_fitsAnew_3 (x2 : Int32) (x3 : Int32) (x4 : Int32) {e' : Nat} {I' : Nat → Nat → Int32} {J' : Nat → Nat → Int64} {A' : Nat → Nat → Int32} {B' : Nat → Nat → Int64} (h : f_X10_fitsAnew [.ref 0, .int x2, .int x3] (79, e, mm_R0, I, J, A, B) = some (.inr 3, (79, e', mm_R0, I', J', A', B'))) : f_L_set [.ref 0, .int (5 : Int32), .int x2, .int x3, .int x4] (79, e, mm_R0, I, J, A, B) = some (.inl (some (.long (-2000000003 : Int64))), (79, e', mm_R0, I', J', A', B')) := by
  rw [en_L_set, sg_L_set_0, en_L_finds, sg_L_finds_0, pc_L_finds_5, sg_L_finds_68, h]
  show mm_run (mm_pr tb_L_set) (24, [some (.ref 0), some (.int (5 : Int32)), some (.int x2), some (.int x3), some (.int x4), none], [], _) = _
  rw [sg_L_set_24]
theorem wl_type (x1 : Int64) (x3 : Int32) {v : Int32} {e' : Nat} {I' : Nat → Nat → Int32} {J' : Nat → Nat → Int64} {A' : Nat → Nat → Int32} {B' : Nat → Nat → Int64} (h : f_X10_type [.ref 0, .long x1, .int x3] (79, e, mm_R0, I, J, A, B) = some (.inl (some (.int v)), (79, e', mm_R0, I', J', A', B'))) : f_L_type [.ref 0, .long x1, .int x3] (79, e, mm_R0, I, J, A, B) = some (.inl (some (.int v)), (79, e', mm_R0, I', J', A', B')) := by
  rw [en_L_type, sg_L_type_0, h]
  show mm_run (mm_pr tb_L_type) (6, _, [.int v], _) = _
  rw [sg_L_type_6]
theorem wx_type_2 (x1 : Int64) (x3 : Int32) {e' : Nat} {I' : Nat → Nat → Int32} {J' : Nat → Nat → Int64} {A' : Nat → Nat → Int32} {B' : Nat → Nat → Int64} (h : f_X10_type [.ref 0, .long x1, .int x3] (79, e, mm_R0, I, J, A, B) = some (.inr 2, (79, e', mm_R0, I', J', A', B'))) : f_L_type [.ref 0, .long x1, .int x3] (79, e, mm_R0, I, J, A, B) = some (.inl (some (.int (-2000000002 : Int32))), (79, e', mm_R0, I', J', A', B')) := by
  rw [en_L_type, sg_L_type_0, h]
  show mm_run (mm_pr tb_L_type) (9, [some (.ref 0), some (.long x1), none, some (.int x3), none], [], _) = _
  rw [sg_L_type_9]
theorem wx_type_3 (x1 : Int64) (x3 : Int32) {e' : Nat} {I' : Nat → Nat → Int32} {J' : Nat → Nat → Int64} {A' : Nat → Nat → Int32} {B' : Nat → Nat → Int64} (h : f_X10_type [.ref 0, .long x1, .int x3] (79, e, mm_R0, I, J, A, B) = some (.inr 3, (79, e', mm_R0, I', J', A', B'))) : f_L_type [.ref 0, .long x1, .int x3] (79, e, mm_R0, I, J, A, B) = some (.inl (some (.int (-2000000003 : Int32))), (79, e', mm_R0, I', J', A', B')) := by
  rw [en_L_type, sg_L_type_0, h]
  show mm_run (mm_pr tb_L_type) (14, [some (.ref 0), some (.long x1), none, some (.int x3), none], [], _) = _
  rw [sg_L_type_14]
end
