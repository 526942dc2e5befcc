/-! the wrappers of the law: by program (wip/whole/gen/genwrap.py) -/
theorem mm_aftC_v (P : Nat → mm_I) (n : Nat) (L : mm_L) (rest : List Value) (hs : List (Nat × Nat × Nat)) (v : Value) (S : mm_S) : mm_aftC P n L rest hs (some (.inl (some v), S)) = mm_run P (n, L, v :: rest, S) := rfl
theorem mm_aftC_n (P : Nat → mm_I) (n : Nat) (L : mm_L) (rest : List Value) (hs : List (Nat × Nat × Nat)) (S : mm_S) : mm_aftC P n L rest hs (some (.inl none, S)) = mm_run P (n, L, rest, S) := rfl
theorem in01 : 0 ≤ ((0 : Int32)).toInt ∧ ((0 : Int32)).toInt < 1 := by decide
section
variable {e e' : Nat} {I I' : Nat → Nat → Int32} {J J' : Nat → Nat → Int64} {A A' : Nat → Nat → Int32} {B B' : Nat → Nat → Int64}
theorem wL_game {x1 : Int32} {x2 : Int32} {x3 : Int32} {v : Int32} (h : f_X10_game [.ref 0, .int x1, .int x2, .int x3] (65, e, mm_R0, I, J, A, B) = some (.inl (some (.int v)), (65, e', mm_R0, I', J', A', B'))) : f_L_game [.ref 0, .int x1, .int x2, .int x3, .ref 64] (65, e, mm_R0, I, J, A, B) = some (.inl (some (.int (i32 0))), (65, e', mm_R0, I', J', A', mm_up B' 64 0 v.toInt64)) := by
  rw [en_L_game, sg_L_game_0, h, mm_aftC_v, sg_L_game_10, if_pos in01]
  rfl
theorem wL_game_x2 {x1 : Int32} {x2 : Int32} {x3 : Int32} (h : f_X10_game [.ref 0, .int x1, .int x2, .int x3] (65, e, mm_R0, I, J, A, B) = some (.inr 2, (65, e', mm_R0, I', J', A', B'))) : f_L_game [.ref 0, .int x1, .int x2, .int x3, .ref 64] (65, e, mm_R0, I, J, A, B) = some (.inl (some (.int (i32 1))), (65, e', mm_R0, I', J', A', B')) := by
  rw [en_L_game, sg_L_game_0, h]
  show mm_run (mm_pr tb_L_game) (17, [some (.ref 0), some (.int x1), some (.int x2), some (.int x3), some (.ref 64), none], [], (65, e', mm_R0, I', J', A', B')) = _
  rw [sg_L_game_17]
  rfl
theorem wL_move {x1 : Int32} {v : Int32} (h : f_X10_move [.ref 0, .int x1] (65, e, mm_R0, I, J, A, B) = some (.inl (some (.int v)), (65, e', mm_R0, I', J', A', B'))) : f_L_move [.ref 0, .int x1, .ref 64] (65, e, mm_R0, I, J, A, B) = some (.inl (some (.int (i32 0))), (65, e', mm_R0, I', J', A', mm_up B' 64 0 v.toInt64)) := by
  rw [en_L_move, sg_L_move_0, h, mm_aftC_v, sg_L_move_7, if_pos in01]
  rfl
theorem wL_move_x1 {x1 : Int32} (h : f_X10_move [.ref 0, .int x1] (65, e, mm_R0, I, J, A, B) = some (.inr 1, (65, e', mm_R0, I', J', A', B'))) : f_L_move [.ref 0, .int x1, .ref 64] (65, e, mm_R0, I, J, A, B) = some (.inl (some (.int (i32 1))), (65, e', mm_R0, I', J', A', B')) := by
  rw [en_L_move, sg_L_move_0, h]
  show mm_run (mm_pr tb_L_move) (13, [some (.ref 0), some (.int x1), some (.ref 64), none], [], (65, e', mm_R0, I', J', A', B')) = _
  rw [sg_L_move_13]
  rfl
theorem wL_move_x2 {x1 : Int32} (h : f_X10_move [.ref 0, .int x1] (65, e, mm_R0, I, J, A, B) = some (.inr 2, (65, e', mm_R0, I', J', A', B'))) : f_L_move [.ref 0, .int x1, .ref 64] (65, e, mm_R0, I, J, A, B) = some (.inl (some (.int (i32 2))), (65, e', mm_R0, I', J', A', B')) := by
  rw [en_L_move, sg_L_move_0, h]
  show mm_run (mm_pr tb_L_move) (16, [some (.ref 0), some (.int x1), some (.ref 64), none], [], (65, e', mm_R0, I', J', A', B')) = _
  rw [sg_L_move_16]
  rfl
theorem wL_move_x3 {x1 : Int32} (h : f_X10_move [.ref 0, .int x1] (65, e, mm_R0, I, J, A, B) = some (.inr 3, (65, e', mm_R0, I', J', A', B'))) : f_L_move [.ref 0, .int x1, .ref 64] (65, e, mm_R0, I, J, A, B) = some (.inl (some (.int (i32 3))), (65, e', mm_R0, I', J', A', B')) := by
  rw [en_L_move, sg_L_move_0, h]
  show mm_run (mm_pr tb_L_move) (19, [some (.ref 0), some (.int x1), some (.ref 64), none], [], (65, e', mm_R0, I', J', A', B')) = _
  rw [sg_L_move_19]
  rfl
theorem wL_swap  {v : Int32} (h : f_X10_swap [.ref 0] (65, e, mm_R0, I, J, A, B) = some (.inl (some (.int v)), (65, e', mm_R0, I', J', A', B'))) : f_L_swap [.ref 0, .ref 64] (65, e, mm_R0, I, J, A, B) = some (.inl (some (.int (i32 0))), (65, e', mm_R0, I', J', A', mm_up B' 64 0 v.toInt64)) := by
  rw [en_L_swap, sg_L_swap_0, h, mm_aftC_v, sg_L_swap_6, if_pos in01]
  rfl
theorem wL_swap_x3  (h : f_X10_swap [.ref 0] (65, e, mm_R0, I, J, A, B) = some (.inr 3, (65, e', mm_R0, I', J', A', B'))) : f_L_swap [.ref 0, .ref 64] (65, e, mm_R0, I, J, A, B) = some (.inl (some (.int (i32 1))), (65, e', mm_R0, I', J', A', B')) := by
  rw [en_L_swap, sg_L_swap_0, h]
  show mm_run (mm_pr tb_L_swap) (12, [some (.ref 0), some (.ref 64), none], [], (65, e', mm_R0, I', J', A', B')) = _
  rw [sg_L_swap_12]
  rfl
theorem wL_undo  {v : Int32} (h : f_X10_undo [.ref 0] (65, e, mm_R0, I, J, A, B) = some (.inl (some (.int v)), (65, e', mm_R0, I', J', A', B'))) : f_L_undo [.ref 0, .ref 64] (65, e, mm_R0, I, J, A, B) = some (.inl (some (.int (i32 0))), (65, e', mm_R0, I', J', A', mm_up B' 64 0 v.toInt64)) := by
  rw [en_L_undo, sg_L_undo_0, h, mm_aftC_v, sg_L_undo_6, if_pos in01]
  rfl
theorem wL_undo_x3  (h : f_X10_undo [.ref 0] (65, e, mm_R0, I, J, A, B) = some (.inr 3, (65, e', mm_R0, I', J', A', B'))) : f_L_undo [.ref 0, .ref 64] (65, e, mm_R0, I, J, A, B) = some (.inl (some (.int (i32 1))), (65, e', mm_R0, I', J', A', B')) := by
  rw [en_L_undo, sg_L_undo_0, h]
  show mm_run (mm_pr tb_L_undo) (12, [some (.ref 0), some (.ref 64), none], [], (65, e', mm_R0, I', J', A', B')) = _
  rw [sg_L_undo_12]
  rfl
theorem wL_told {x1 : Int32} {v : Int32} (h : f_X10_told [.ref 0, .int x1] (65, e, mm_R0, I, J, A, B) = some (.inl (some (.int v)), (65, e', mm_R0, I', J', A', B'))) : f_L_told [.ref 0, .int x1, .ref 64] (65, e, mm_R0, I, J, A, B) = some (.inl (some (.int (i32 0))), (65, e', mm_R0, I', J', A', mm_up B' 64 0 v.toInt64)) := by
  rw [en_L_told, sg_L_told_0, h, mm_aftC_v, sg_L_told_7, if_pos in01]
  rfl
theorem wL_told_x2 {x1 : Int32} (h : f_X10_told [.ref 0, .int x1] (65, e, mm_R0, I, J, A, B) = some (.inr 2, (65, e', mm_R0, I', J', A', B'))) : f_L_told [.ref 0, .int x1, .ref 64] (65, e, mm_R0, I, J, A, B) = some (.inl (some (.int (i32 1))), (65, e', mm_R0, I', J', A', B')) := by
  rw [en_L_told, sg_L_told_0, h]
  show mm_run (mm_pr tb_L_told) (13, [some (.ref 0), some (.int x1), some (.ref 64), none], [], (65, e', mm_R0, I', J', A', B')) = _
  rw [sg_L_told_13]
  rfl
theorem wL_cell {x1 : Int32} {x2 : Int32} {v : Int32} (h : f_X10_cell [.ref 0, .int x1, .int x2] (65, e, mm_R0, I, J, A, B) = some (.inl (some (.int v)), (65, e', mm_R0, I', J', A', B'))) : f_L_cell [.ref 0, .int x1, .int x2, .ref 64] (65, e, mm_R0, I, J, A, B) = some (.inl (some (.int (i32 0))), (65, e', mm_R0, I', J', A', mm_up B' 64 0 v.toInt64)) := by
  rw [en_L_cell, sg_L_cell_0, h, mm_aftC_v, sg_L_cell_8, if_pos in01]
  rfl
theorem wL_cell_x1 {x1 : Int32} {x2 : Int32} (h : f_X10_cell [.ref 0, .int x1, .int x2] (65, e, mm_R0, I, J, A, B) = some (.inr 1, (65, e', mm_R0, I', J', A', B'))) : f_L_cell [.ref 0, .int x1, .int x2, .ref 64] (65, e, mm_R0, I, J, A, B) = some (.inl (some (.int (i32 1))), (65, e', mm_R0, I', J', A', B')) := by
  rw [en_L_cell, sg_L_cell_0, h]
  show mm_run (mm_pr tb_L_cell) (15, [some (.ref 0), some (.int x1), some (.int x2), some (.ref 64), none], [], (65, e', mm_R0, I', J', A', B')) = _
  rw [sg_L_cell_15]
  rfl
theorem wL_cell_x2 {x1 : Int32} {x2 : Int32} (h : f_X10_cell [.ref 0, .int x1, .int x2] (65, e, mm_R0, I, J, A, B) = some (.inr 2, (65, e', mm_R0, I', J', A', B'))) : f_L_cell [.ref 0, .int x1, .int x2, .ref 64] (65, e, mm_R0, I, J, A, B) = some (.inl (some (.int (i32 2))), (65, e', mm_R0, I', J', A', B')) := by
  rw [en_L_cell, sg_L_cell_0, h]
  show mm_run (mm_pr tb_L_cell) (19, [some (.ref 0), some (.int x1), some (.int x2), some (.ref 64), none], [], (65, e', mm_R0, I', J', A', B')) = _
  rw [sg_L_cell_19]
  rfl
theorem wL_neighbour {x1 : Int32} {x2 : Int32} {v : Int32} (h : f_X10_neighbour [.ref 0, .int x1, .int x2] (65, e, mm_R0, I, J, A, B) = some (.inl (some (.int v)), (65, e', mm_R0, I', J', A', B'))) : f_L_neighbour [.ref 0, .int x1, .int x2, .ref 64] (65, e, mm_R0, I, J, A, B) = some (.inl (some (.int (i32 0))), (65, e', mm_R0, I', J', A', mm_up B' 64 0 v.toInt64)) := by
  rw [en_L_neighbour, sg_L_neighbour_0, h, mm_aftC_v, sg_L_neighbour_8, if_pos in01]
  rfl
theorem wL_neighbour_x1 {x1 : Int32} {x2 : Int32} (h : f_X10_neighbour [.ref 0, .int x1, .int x2] (65, e, mm_R0, I, J, A, B) = some (.inr 1, (65, e', mm_R0, I', J', A', B'))) : f_L_neighbour [.ref 0, .int x1, .int x2, .ref 64] (65, e, mm_R0, I, J, A, B) = some (.inl (some (.int (i32 1))), (65, e', mm_R0, I', J', A', B')) := by
  rw [en_L_neighbour, sg_L_neighbour_0, h]
  show mm_run (mm_pr tb_L_neighbour) (15, [some (.ref 0), some (.int x1), some (.int x2), some (.ref 64), none], [], (65, e', mm_R0, I', J', A', B')) = _
  rw [sg_L_neighbour_15]
  rfl
theorem wL_neighbour_x2 {x1 : Int32} {x2 : Int32} (h : f_X10_neighbour [.ref 0, .int x1, .int x2] (65, e, mm_R0, I, J, A, B) = some (.inr 2, (65, e', mm_R0, I', J', A', B'))) : f_L_neighbour [.ref 0, .int x1, .int x2, .ref 64] (65, e, mm_R0, I, J, A, B) = some (.inl (some (.int (i32 2))), (65, e', mm_R0, I', J', A', B')) := by
  rw [en_L_neighbour, sg_L_neighbour_0, h]
  show mm_run (mm_pr tb_L_neighbour) (19, [some (.ref 0), some (.int x1), some (.int x2), some (.ref 64), none], [], (65, e', mm_R0, I', J', A', B')) = _
  rw [sg_L_neighbour_19]
  rfl
theorem wL_best  {v : Int32} (h : f_X10_best [.ref 0] (65, e, mm_R0, I, J, A, B) = some (.inl (some (.int v)), (65, e', mm_R0, I', J', A', B'))) : f_L_best [.ref 0, .ref 64] (65, e, mm_R0, I, J, A, B) = some (.inl (some (.int (i32 0))), (65, e', mm_R0, I', J', A', mm_up B' 64 0 v.toInt64)) := by
  rw [en_L_best, sg_L_best_0, h, mm_aftC_v, sg_L_best_6, if_pos in01]
  rfl
theorem wL_best_x3  (h : f_X10_best [.ref 0] (65, e, mm_R0, I, J, A, B) = some (.inr 3, (65, e', mm_R0, I', J', A', B'))) : f_L_best [.ref 0, .ref 64] (65, e, mm_R0, I, J, A, B) = some (.inl (some (.int (i32 1))), (65, e', mm_R0, I', J', A', B')) := by
  rw [en_L_best, sg_L_best_0, h]
  show mm_run (mm_pr tb_L_best) (12, [some (.ref 0), some (.ref 64), none], [], (65, e', mm_R0, I', J', A', B')) = _
  rw [sg_L_best_12]
  rfl
theorem wL_wins  {v : Int64} (h : f_X10_wins [.ref 0] (65, e, mm_R0, I, J, A, B) = some (.inl (some (.long v)), (65, e', mm_R0, I', J', A', B'))) : f_L_wins [.ref 0, .ref 64] (65, e, mm_R0, I, J, A, B) = some (.inl (some (.int (i32 0))), (65, e', mm_R0, I', J', A', mm_up B' 64 0 v)) := by
  rw [en_L_wins, sg_L_wins_0, h, mm_aftC_v, sg_L_wins_6, if_pos in01]
  rfl
theorem wL_wins_x3  (h : f_X10_wins [.ref 0] (65, e, mm_R0, I, J, A, B) = some (.inr 3, (65, e', mm_R0, I', J', A', B'))) : f_L_wins [.ref 0, .ref 64] (65, e, mm_R0, I, J, A, B) = some (.inl (some (.int (i32 1))), (65, e', mm_R0, I', J', A', B')) := by
  rw [en_L_wins, sg_L_wins_0, h]
  show mm_run (mm_pr tb_L_wins) (11, [some (.ref 0), some (.ref 64), none], [], (65, e', mm_R0, I', J', A', B')) = _
  rw [sg_L_wins_11]
  rfl
theorem wL_lasts  {v : Int32} (h : f_X10_lasts [.ref 0] (65, e, mm_R0, I, J, A, B) = some (.inl (some (.int v)), (65, e', mm_R0, I', J', A', B'))) : f_L_lasts [.ref 0, .ref 64] (65, e, mm_R0, I, J, A, B) = some (.inl (some (.int (i32 0))), (65, e', mm_R0, I', J', A', mm_up B' 64 0 v.toInt64)) := by
  rw [en_L_lasts, sg_L_lasts_0, h, mm_aftC_v, sg_L_lasts_6, if_pos in01]
  rfl
theorem wL_lasts_x3  (h : f_X10_lasts [.ref 0] (65, e, mm_R0, I, J, A, B) = some (.inr 3, (65, e', mm_R0, I', J', A', B'))) : f_L_lasts [.ref 0, .ref 64] (65, e, mm_R0, I, J, A, B) = some (.inl (some (.int (i32 1))), (65, e', mm_R0, I', J', A', B')) := by
  rw [en_L_lasts, sg_L_lasts_0, h]
  show mm_run (mm_pr tb_L_lasts) (12, [some (.ref 0), some (.ref 64), none], [], (65, e', mm_R0, I', J', A', B')) = _
  rw [sg_L_lasts_12]
  rfl
theorem wL_dead  {v : Int64} (h : f_X10_dead [.ref 0] (65, e, mm_R0, I, J, A, B) = some (.inl (some (.long v)), (65, e', mm_R0, I', J', A', B'))) : f_L_dead [.ref 0, .ref 64] (65, e, mm_R0, I, J, A, B) = some (.inl (some (.int (i32 0))), (65, e', mm_R0, I', J', A', mm_up B' 64 0 v)) := by
  rw [en_L_dead, sg_L_dead_0, h, mm_aftC_v, sg_L_dead_6, if_pos in01]
  rfl
theorem wL_dead_x3  (h : f_X10_dead [.ref 0] (65, e, mm_R0, I, J, A, B) = some (.inr 3, (65, e', mm_R0, I', J', A', B'))) : f_L_dead [.ref 0, .ref 64] (65, e, mm_R0, I, J, A, B) = some (.inl (some (.int (i32 1))), (65, e', mm_R0, I', J', A', B')) := by
  rw [en_L_dead, sg_L_dead_0, h]
  show mm_run (mm_pr tb_L_dead) (11, [some (.ref 0), some (.ref 64), none], [], (65, e', mm_R0, I', J', A', B')) = _
  rw [sg_L_dead_11]
  rfl
theorem wL_carrier {x1 : Int32} {x2 : Int32} {x3 : Int32} {v : Int64} (h : f_X10_carrier [.ref 0, .int x1, .int x2, .int x3] (65, e, mm_R0, I, J, A, B) = some (.inl (some (.long v)), (65, e', mm_R0, I', J', A', B'))) : f_L_carrier [.ref 0, .int x1, .int x2, .int x3, .ref 64] (65, e, mm_R0, I, J, A, B) = some (.inl (some (.int (i32 0))), (65, e', mm_R0, I', J', A', mm_up B' 64 0 v)) := by
  rw [en_L_carrier, sg_L_carrier_0, h, mm_aftC_v, sg_L_carrier_10, if_pos in01]
  rfl
theorem wL_carrier_x1 {x1 : Int32} {x2 : Int32} {x3 : Int32} (h : f_X10_carrier [.ref 0, .int x1, .int x2, .int x3] (65, e, mm_R0, I, J, A, B) = some (.inr 1, (65, e', mm_R0, I', J', A', B'))) : f_L_carrier [.ref 0, .int x1, .int x2, .int x3, .ref 64] (65, e, mm_R0, I, J, A, B) = some (.inl (some (.int (i32 1))), (65, e', mm_R0, I', J', A', B')) := by
  rw [en_L_carrier, sg_L_carrier_0, h]
  show mm_run (mm_pr tb_L_carrier) (16, [some (.ref 0), some (.int x1), some (.int x2), some (.int x3), some (.ref 64), none], [], (65, e', mm_R0, I', J', A', B')) = _
  rw [sg_L_carrier_16]
  rfl
theorem wL_carrier_x2 {x1 : Int32} {x2 : Int32} {x3 : Int32} (h : f_X10_carrier [.ref 0, .int x1, .int x2, .int x3] (65, e, mm_R0, I, J, A, B) = some (.inr 2, (65, e', mm_R0, I', J', A', B'))) : f_L_carrier [.ref 0, .int x1, .int x2, .int x3, .ref 64] (65, e, mm_R0, I, J, A, B) = some (.inl (some (.int (i32 2))), (65, e', mm_R0, I', J', A', B')) := by
  rw [en_L_carrier, sg_L_carrier_0, h]
  show mm_run (mm_pr tb_L_carrier) (20, [some (.ref 0), some (.int x1), some (.int x2), some (.int x3), some (.ref 64), none], [], (65, e', mm_R0, I', J', A', B')) = _
  rw [sg_L_carrier_20]
  rfl
theorem wL_carrier_x3 {x1 : Int32} {x2 : Int32} {x3 : Int32} (h : f_X10_carrier [.ref 0, .int x1, .int x2, .int x3] (65, e, mm_R0, I, J, A, B) = some (.inr 3, (65, e', mm_R0, I', J', A', B'))) : f_L_carrier [.ref 0, .int x1, .int x2, .int x3, .ref 64] (65, e, mm_R0, I, J, A, B) = some (.inl (some (.int (i32 3))), (65, e', mm_R0, I', J', A', B')) := by
  rw [en_L_carrier, sg_L_carrier_0, h]
  show mm_run (mm_pr tb_L_carrier) (24, [some (.ref 0), some (.int x1), some (.int x2), some (.int x3), some (.ref 64), none], [], (65, e', mm_R0, I', J', A', B')) = _
  rw [sg_L_carrier_24]
  rfl
theorem wL_answer {x1 : Int32} {x2 : Int32} {x3 : Int32} {x4 : Int32} {v : Int32} (h : f_X10_answer [.ref 0, .int x1, .int x2, .int x3, .int x4] (65, e, mm_R0, I, J, A, B) = some (.inl (some (.int v)), (65, e', mm_R0, I', J', A', B'))) : f_L_answer [.ref 0, .int x1, .int x2, .int x3, .int x4, .ref 64] (65, e, mm_R0, I, J, A, B) = some (.inl (some (.int (i32 0))), (65, e', mm_R0, I', J', A', mm_up B' 64 0 v.toInt64)) := by
  rw [en_L_answer, sg_L_answer_0, h, mm_aftC_v, sg_L_answer_12, if_pos in01]
  rfl
theorem wL_answer_x1 {x1 : Int32} {x2 : Int32} {x3 : Int32} {x4 : Int32} (h : f_X10_answer [.ref 0, .int x1, .int x2, .int x3, .int x4] (65, e, mm_R0, I, J, A, B) = some (.inr 1, (65, e', mm_R0, I', J', A', B'))) : f_L_answer [.ref 0, .int x1, .int x2, .int x3, .int x4, .ref 64] (65, e, mm_R0, I, J, A, B) = some (.inl (some (.int (i32 1))), (65, e', mm_R0, I', J', A', B')) := by
  rw [en_L_answer, sg_L_answer_0, h]
  show mm_run (mm_pr tb_L_answer) (19, [some (.ref 0), some (.int x1), some (.int x2), some (.int x3), some (.int x4), some (.ref 64), none], [], (65, e', mm_R0, I', J', A', B')) = _
  rw [sg_L_answer_19]
  rfl
theorem wL_answer_x2 {x1 : Int32} {x2 : Int32} {x3 : Int32} {x4 : Int32} (h : f_X10_answer [.ref 0, .int x1, .int x2, .int x3, .int x4] (65, e, mm_R0, I, J, A, B) = some (.inr 2, (65, e', mm_R0, I', J', A', B'))) : f_L_answer [.ref 0, .int x1, .int x2, .int x3, .int x4, .ref 64] (65, e, mm_R0, I, J, A, B) = some (.inl (some (.int (i32 2))), (65, e', mm_R0, I', J', A', B')) := by
  rw [en_L_answer, sg_L_answer_0, h]
  show mm_run (mm_pr tb_L_answer) (23, [some (.ref 0), some (.int x1), some (.int x2), some (.int x3), some (.int x4), some (.ref 64), none], [], (65, e', mm_R0, I', J', A', B')) = _
  rw [sg_L_answer_23]
  rfl
theorem wL_answer_x3 {x1 : Int32} {x2 : Int32} {x3 : Int32} {x4 : Int32} (h : f_X10_answer [.ref 0, .int x1, .int x2, .int x3, .int x4] (65, e, mm_R0, I, J, A, B) = some (.inr 3, (65, e', mm_R0, I', J', A', B'))) : f_L_answer [.ref 0, .int x1, .int x2, .int x3, .int x4, .ref 64] (65, e, mm_R0, I, J, A, B) = some (.inl (some (.int (i32 3))), (65, e', mm_R0, I', J', A', B')) := by
  rw [en_L_answer, sg_L_answer_0, h]
  show mm_run (mm_pr tb_L_answer) (27, [some (.ref 0), some (.int x1), some (.int x2), some (.int x3), some (.int x4), some (.ref 64), none], [], (65, e', mm_R0, I', J', A', B')) = _
  rw [sg_L_answer_27]
  rfl
theorem wL_gaveAway {x1 : Int32} {v : Bool} (h : f_X10_gaveAway [.ref 0, .int x1] (65, e, mm_R0, I, J, A, B) = some (.inl (some (.int (bi v))), (65, e', mm_R0, I', J', A', B'))) : f_L_gaveAway [.ref 0, .int x1, .ref 64] (65, e, mm_R0, I, J, A, B) = some (.inl (some (.int (i32 0))), (65, e', mm_R0, I', J', A', mm_up B' 64 0 (if v = true then 1 else 0))) := by
  rw [en_L_gaveAway, sg_L_gaveAway_0, h, mm_aftC_v, sg_L_gaveAway_7]
  cases v with
  | true => rw [if_neg (show ¬ bi true = 0 by decide), sg_L_gaveAway_15, if_pos in01]; rfl
  | false => rw [if_pos (show bi false = 0 from rfl), sg_L_gaveAway_15, if_pos in01]; rfl
theorem wL_gaveAway_x1 {x1 : Int32} (h : f_X10_gaveAway [.ref 0, .int x1] (65, e, mm_R0, I, J, A, B) = some (.inr 1, (65, e', mm_R0, I', J', A', B'))) : f_L_gaveAway [.ref 0, .int x1, .ref 64] (65, e, mm_R0, I, J, A, B) = some (.inl (some (.int (i32 1))), (65, e', mm_R0, I', J', A', B')) := by
  rw [en_L_gaveAway, sg_L_gaveAway_0, h]
  show mm_run (mm_pr tb_L_gaveAway) (20, [some (.ref 0), some (.int x1), some (.ref 64), none], [], (65, e', mm_R0, I', J', A', B')) = _
  rw [sg_L_gaveAway_20]
  rfl
theorem wL_gaveAway_x2 {x1 : Int32} (h : f_X10_gaveAway [.ref 0, .int x1] (65, e, mm_R0, I, J, A, B) = some (.inr 2, (65, e', mm_R0, I', J', A', B'))) : f_L_gaveAway [.ref 0, .int x1, .ref 64] (65, e, mm_R0, I, J, A, B) = some (.inl (some (.int (i32 2))), (65, e', mm_R0, I', J', A', B')) := by
  rw [en_L_gaveAway, sg_L_gaveAway_0, h]
  show mm_run (mm_pr tb_L_gaveAway) (23, [some (.ref 0), some (.int x1), some (.ref 64), none], [], (65, e', mm_R0, I', J', A', B')) = _
  rw [sg_L_gaveAway_23]
  rfl
theorem wL_gaveAway_x3 {x1 : Int32} (h : f_X10_gaveAway [.ref 0, .int x1] (65, e, mm_R0, I, J, A, B) = some (.inr 3, (65, e', mm_R0, I', J', A', B'))) : f_L_gaveAway [.ref 0, .int x1, .ref 64] (65, e, mm_R0, I, J, A, B) = some (.inl (some (.int (i32 3))), (65, e', mm_R0, I', J', A', B')) := by
  rw [en_L_gaveAway, sg_L_gaveAway_0, h]
  show mm_run (mm_pr tb_L_gaveAway) (26, [some (.ref 0), some (.int x1), some (.ref 64), none], [], (65, e', mm_R0, I', J', A', B')) = _
  rw [sg_L_gaveAway_26]
  rfl
theorem wL_far {x1 : Int32} {v : Int32} (h : f_X10_far [.ref 0, .int x1] (65, e, mm_R0, I, J, A, B) = some (.inl (some (.int v)), (65, e', mm_R0, I', J', A', B'))) : f_L_far [.ref 0, .int x1, .ref 64] (65, e, mm_R0, I, J, A, B) = some (.inl (some (.int (i32 0))), (65, e', mm_R0, I', J', A', mm_up B' 64 0 v.toInt64)) := by
  rw [en_L_far, sg_L_far_0, h, mm_aftC_v, sg_L_far_7, if_pos in01]
  rfl
theorem wL_far_x1 {x1 : Int32} (h : f_X10_far [.ref 0, .int x1] (65, e, mm_R0, I, J, A, B) = some (.inr 1, (65, e', mm_R0, I', J', A', B'))) : f_L_far [.ref 0, .int x1, .ref 64] (65, e, mm_R0, I, J, A, B) = some (.inl (some (.int (i32 1))), (65, e', mm_R0, I', J', A', B')) := by
  rw [en_L_far, sg_L_far_0, h]
  show mm_run (mm_pr tb_L_far) (13, [some (.ref 0), some (.int x1), some (.ref 64), none], [], (65, e', mm_R0, I', J', A', B')) = _
  rw [sg_L_far_13]
  rfl
theorem wL_far_x3 {x1 : Int32} (h : f_X10_far [.ref 0, .int x1] (65, e, mm_R0, I, J, A, B) = some (.inr 3, (65, e', mm_R0, I', J', A', B'))) : f_L_far [.ref 0, .int x1, .ref 64] (65, e, mm_R0, I, J, A, B) = some (.inl (some (.int (i32 2))), (65, e', mm_R0, I', J', A', B')) := by
  rw [en_L_far, sg_L_far_0, h]
  show mm_run (mm_pr tb_L_far) (16, [some (.ref 0), some (.int x1), some (.ref 64), none], [], (65, e', mm_R0, I', J', A', B')) = _
  rw [sg_L_far_16]
  rfl
theorem wL_plays {x1 : Int32} {x2 : Int32} {v : Int32} (h : f_X10_plays [.ref 0, .int x1, .int x2] (65, e, mm_R0, I, J, A, B) = some (.inl (some (.int v)), (65, e', mm_R0, I', J', A', B'))) : f_L_plays [.ref 0, .int x1, .int x2, .ref 64] (65, e, mm_R0, I, J, A, B) = some (.inl (some (.int (i32 0))), (65, e', mm_R0, I', J', A', mm_up B' 64 0 v.toInt64)) := by
  rw [en_L_plays, sg_L_plays_0, h, mm_aftC_v, sg_L_plays_8, if_pos in01]
  rfl
theorem wL_plays_x2 {x1 : Int32} {x2 : Int32} (h : f_X10_plays [.ref 0, .int x1, .int x2] (65, e, mm_R0, I, J, A, B) = some (.inr 2, (65, e', mm_R0, I', J', A', B'))) : f_L_plays [.ref 0, .int x1, .int x2, .ref 64] (65, e, mm_R0, I, J, A, B) = some (.inl (some (.int (i32 1))), (65, e', mm_R0, I', J', A', B')) := by
  rw [en_L_plays, sg_L_plays_0, h]
  show mm_run (mm_pr tb_L_plays) (15, [some (.ref 0), some (.int x1), some (.int x2), some (.ref 64), none], [], (65, e', mm_R0, I', J', A', B')) = _
  rw [sg_L_plays_15]
  rfl
theorem wL_plays_x3 {x1 : Int32} {x2 : Int32} (h : f_X10_plays [.ref 0, .int x1, .int x2] (65, e, mm_R0, I, J, A, B) = some (.inr 3, (65, e', mm_R0, I', J', A', B'))) : f_L_plays [.ref 0, .int x1, .int x2, .ref 64] (65, e, mm_R0, I, J, A, B) = some (.inl (some (.int (i32 2))), (65, e', mm_R0, I', J', A', B')) := by
  rw [en_L_plays, sg_L_plays_0, h]
  show mm_run (mm_pr tb_L_plays) (19, [some (.ref 0), some (.int x1), some (.int x2), some (.ref 64), none], [], (65, e', mm_R0, I', J', A', B')) = _
  rw [sg_L_plays_19]
  rfl
theorem wL_playedOut {x1 : Int32} {v : Int64} (h : f_X10_playedOut [.ref 0, .int x1] (65, e, mm_R0, I, J, A, B) = some (.inl (some (.long v)), (65, e', mm_R0, I', J', A', B'))) : f_L_playedOut [.ref 0, .int x1, .ref 64] (65, e, mm_R0, I, J, A, B) = some (.inl (some (.int (i32 0))), (65, e', mm_R0, I', J', A', mm_up B' 64 0 v)) := by
  rw [en_L_playedOut, sg_L_playedOut_0, h, mm_aftC_v, sg_L_playedOut_7, if_pos in01]
  rfl
theorem wL_playedOut_x2 {x1 : Int32} (h : f_X10_playedOut [.ref 0, .int x1] (65, e, mm_R0, I, J, A, B) = some (.inr 2, (65, e', mm_R0, I', J', A', B'))) : f_L_playedOut [.ref 0, .int x1, .ref 64] (65, e, mm_R0, I, J, A, B) = some (.inl (some (.int (i32 1))), (65, e', mm_R0, I', J', A', B')) := by
  rw [en_L_playedOut, sg_L_playedOut_0, h]
  show mm_run (mm_pr tb_L_playedOut) (12, [some (.ref 0), some (.int x1), some (.ref 64), none], [], (65, e', mm_R0, I', J', A', B')) = _
  rw [sg_L_playedOut_12]
  rfl
theorem wL_playedOut_x3 {x1 : Int32} (h : f_X10_playedOut [.ref 0, .int x1] (65, e, mm_R0, I, J, A, B) = some (.inr 3, (65, e', mm_R0, I', J', A', B'))) : f_L_playedOut [.ref 0, .int x1, .ref 64] (65, e, mm_R0, I, J, A, B) = some (.inl (some (.int (i32 2))), (65, e', mm_R0, I', J', A', B')) := by
  rw [en_L_playedOut, sg_L_playedOut_0, h]
  show mm_run (mm_pr tb_L_playedOut) (15, [some (.ref 0), some (.int x1), some (.ref 64), none], [], (65, e', mm_R0, I', J', A', B')) = _
  rw [sg_L_playedOut_15]
  rfl
theorem wL_type {x1 : Int64} {x3 : Int32} {v : Int32} (h : f_X10_type [.ref 0, .long x1, .int x3] (65, e, mm_R0, I, J, A, B) = some (.inl (some (.int v)), (65, e', mm_R0, I', J', A', B'))) : f_L_type [.ref 0, .long x1, .int x3, .ref 64] (65, e, mm_R0, I, J, A, B) = some (.inl (some (.int (i32 0))), (65, e', mm_R0, I', J', A', mm_up B' 64 0 v.toInt64)) := by
  rw [en_L_type, sg_L_type_0, h, mm_aftC_v, sg_L_type_9, if_pos in01]
  rfl
theorem wL_type_x2 {x1 : Int64} {x3 : Int32} (h : f_X10_type [.ref 0, .long x1, .int x3] (65, e, mm_R0, I, J, A, B) = some (.inr 2, (65, e', mm_R0, I', J', A', B'))) : f_L_type [.ref 0, .long x1, .int x3, .ref 64] (65, e, mm_R0, I, J, A, B) = some (.inl (some (.int (i32 1))), (65, e', mm_R0, I', J', A', B')) := by
  rw [en_L_type, sg_L_type_0, h]
  show mm_run (mm_pr tb_L_type) (16, [some (.ref 0), some (.long x1), none, some (.int x3), some (.ref 64), none], [], (65, e', mm_R0, I', J', A', B')) = _
  rw [sg_L_type_16]
  rfl
theorem wL_type_x3 {x1 : Int64} {x3 : Int32} (h : f_X10_type [.ref 0, .long x1, .int x3] (65, e, mm_R0, I, J, A, B) = some (.inr 3, (65, e', mm_R0, I', J', A', B'))) : f_L_type [.ref 0, .long x1, .int x3, .ref 64] (65, e, mm_R0, I, J, A, B) = some (.inl (some (.int (i32 2))), (65, e', mm_R0, I', J', A', B')) := by
  rw [en_L_type, sg_L_type_0, h]
  show mm_run (mm_pr tb_L_type) (20, [some (.ref 0), some (.long x1), none, some (.int x3), some (.ref 64), none], [], (65, e', mm_R0, I', J', A', B')) = _
  rw [sg_L_type_20]
  rfl
theorem wL_pattern  {v : Int32} (h : f_X10_pattern [.ref 0] (65, e, mm_R0, I, J, A, B) = some (.inl (some (.int v)), (65, e', mm_R0, I', J', A', B'))) : f_L_pattern [.ref 0, .ref 64] (65, e, mm_R0, I, J, A, B) = some (.inl (some (.int (i32 0))), (65, e', mm_R0, I', J', A', mm_up B' 64 0 v.toInt64)) := by
  rw [en_L_pattern, sg_L_pattern_0, h, mm_aftC_v, sg_L_pattern_6, if_pos in01]
  rfl
theorem wL_pattern_x2  (h : f_X10_pattern [.ref 0] (65, e, mm_R0, I, J, A, B) = some (.inr 2, (65, e', mm_R0, I', J', A', B'))) : f_L_pattern [.ref 0, .ref 64] (65, e, mm_R0, I, J, A, B) = some (.inl (some (.int (i32 1))), (65, e', mm_R0, I', J', A', B')) := by
  rw [en_L_pattern, sg_L_pattern_0, h]
  show mm_run (mm_pr tb_L_pattern) (12, [some (.ref 0), some (.ref 64), none], [], (65, e', mm_R0, I', J', A', B')) = _
  rw [sg_L_pattern_12]
  rfl
theorem wL_pattern_x3  (h : f_X10_pattern [.ref 0] (65, e, mm_R0, I, J, A, B) = some (.inr 3, (65, e', mm_R0, I', J', A', B'))) : f_L_pattern [.ref 0, .ref 64] (65, e, mm_R0, I, J, A, B) = some (.inl (some (.int (i32 2))), (65, e', mm_R0, I', J', A', B')) := by
  rw [en_L_pattern, sg_L_pattern_0, h]
  show mm_run (mm_pr tb_L_pattern) (15, [some (.ref 0), some (.ref 64), none], [], (65, e', mm_R0, I', J', A', B')) = _
  rw [sg_L_pattern_15]
  rfl
theorem wL_fits {x1 : Int32} {x2 : Int32} {v : Int64} (h : f_X10_fits [.ref 0, .int x1, .int x2] (65, e, mm_R0, I, J, A, B) = some (.inl (some (.long v)), (65, e', mm_R0, I', J', A', B'))) : f_L_fits [.ref 0, .int x1, .int x2, .ref 64] (65, e, mm_R0, I, J, A, B) = some (.inl (some (.int (i32 0))), (65, e', mm_R0, I', J', A', mm_up B' 64 0 v)) := by
  rw [en_L_fits, sg_L_fits_0, h, mm_aftC_v, sg_L_fits_8, if_pos in01]
  rfl
theorem wL_fits_x1 {x1 : Int32} {x2 : Int32} (h : f_X10_fits [.ref 0, .int x1, .int x2] (65, e, mm_R0, I, J, A, B) = some (.inr 1, (65, e', mm_R0, I', J', A', B'))) : f_L_fits [.ref 0, .int x1, .int x2, .ref 64] (65, e, mm_R0, I, J, A, B) = some (.inl (some (.int (i32 1))), (65, e', mm_R0, I', J', A', B')) := by
  rw [en_L_fits, sg_L_fits_0, h]
  show mm_run (mm_pr tb_L_fits) (14, [some (.ref 0), some (.int x1), some (.int x2), some (.ref 64), none], [], (65, e', mm_R0, I', J', A', B')) = _
  rw [sg_L_fits_14]
  rfl
theorem wL_fitsAnew {x1 : Int32} {x2 : Int32} {v : Int64} (h : f_X10_fitsAnew [.ref 0, .int x1, .int x2] (65, e, mm_R0, I, J, A, B) = some (.inl (some (.long v)), (65, e', mm_R0, I', J', A', B'))) : f_L_fitsAnew [.ref 0, .int x1, .int x2, .ref 64] (65, e, mm_R0, I, J, A, B) = some (.inl (some (.int (i32 0))), (65, e', mm_R0, I', J', A', mm_up B' 64 0 v)) := by
  rw [en_L_fitsAnew, sg_L_fitsAnew_0, h, mm_aftC_v, sg_L_fitsAnew_8, if_pos in01]
  rfl
theorem wL_fitsAnew_x1 {x1 : Int32} {x2 : Int32} (h : f_X10_fitsAnew [.ref 0, .int x1, .int x2] (65, e, mm_R0, I, J, A, B) = some (.inr 1, (65, e', mm_R0, I', J', A', B'))) : f_L_fitsAnew [.ref 0, .int x1, .int x2, .ref 64] (65, e, mm_R0, I, J, A, B) = some (.inl (some (.int (i32 1))), (65, e', mm_R0, I', J', A', B')) := by
  rw [en_L_fitsAnew, sg_L_fitsAnew_0, h]
  show mm_run (mm_pr tb_L_fitsAnew) (14, [some (.ref 0), some (.int x1), some (.int x2), some (.ref 64), none], [], (65, e', mm_R0, I', J', A', B')) = _
  rw [sg_L_fitsAnew_14]
  rfl
theorem wL_clocks {x1 : Int32} {x2 : Int32} {x3 : Int32} (h : f_X10_clocks [.ref 0, .int x1, .int x2, .int x3] (65, e, mm_R0, I, J, A, B) = some (.inl none, (65, e', mm_R0, I', J', A', B'))) : f_L_clocks [.ref 0, .int x1, .int x2, .int x3] (65, e, mm_R0, I, J, A, B) = some (.inl (some (.int (i32 0))), (65, e', mm_R0, I', J', A', B')) := by
  rw [en_L_clocks, sg_L_clocks_0, h, mm_aftC_n, sg_L_clocks_7]
  rfl
theorem wL_clocks_x2 {x1 : Int32} {x2 : Int32} {x3 : Int32} (h : f_X10_clocks [.ref 0, .int x1, .int x2, .int x3] (65, e, mm_R0, I, J, A, B) = some (.inr 2, (65, e', mm_R0, I', J', A', B'))) : f_L_clocks [.ref 0, .int x1, .int x2, .int x3] (65, e, mm_R0, I, J, A, B) = some (.inl (some (.int (i32 1))), (65, e', mm_R0, I', J', A', B')) := by
  rw [en_L_clocks, sg_L_clocks_0, h]
  show mm_run (mm_pr tb_L_clocks) (12, [some (.ref 0), some (.int x1), some (.int x2), some (.int x3), none], [], (65, e', mm_R0, I', J', A', B')) = _
  rw [sg_L_clocks_12]
  rfl
theorem wL_clocks_x3 {x1 : Int32} {x2 : Int32} {x3 : Int32} (h : f_X10_clocks [.ref 0, .int x1, .int x2, .int x3] (65, e, mm_R0, I, J, A, B) = some (.inr 3, (65, e', mm_R0, I', J', A', B'))) : f_L_clocks [.ref 0, .int x1, .int x2, .int x3] (65, e, mm_R0, I, J, A, B) = some (.inl (some (.int (i32 2))), (65, e', mm_R0, I', J', A', B')) := by
  rw [en_L_clocks, sg_L_clocks_0, h]
  show mm_run (mm_pr tb_L_clocks) (16, [some (.ref 0), some (.int x1), some (.int x2), some (.int x3), none], [], (65, e', mm_R0, I', J', A', B')) = _
  rw [sg_L_clocks_16]
  rfl
theorem wL_think {x1 : Int32} {v : Int32} (h : f_X10_think [.ref 0, .int x1] (65, e, mm_R0, I, J, A, B) = some (.inl (some (.int v)), (65, e', mm_R0, I', J', A', B'))) : f_L_think [.ref 0, .int x1, .ref 64] (65, e, mm_R0, I, J, A, B) = some (.inl (some (.int (i32 0))), (65, e', mm_R0, I', J', A', mm_up B' 64 0 v.toInt64)) := by
  rw [en_L_think, sg_L_think_0, h, mm_aftC_v, sg_L_think_7, if_pos in01]
  rfl
theorem wL_think_x2 {x1 : Int32} (h : f_X10_think [.ref 0, .int x1] (65, e, mm_R0, I, J, A, B) = some (.inr 2, (65, e', mm_R0, I', J', A', B'))) : f_L_think [.ref 0, .int x1, .ref 64] (65, e, mm_R0, I, J, A, B) = some (.inl (some (.int (i32 1))), (65, e', mm_R0, I', J', A', B')) := by
  rw [en_L_think, sg_L_think_0, h]
  show mm_run (mm_pr tb_L_think) (13, [some (.ref 0), some (.int x1), some (.ref 64), none], [], (65, e', mm_R0, I', J', A', B')) = _
  rw [sg_L_think_13]
  rfl
theorem wL_think_x3 {x1 : Int32} (h : f_X10_think [.ref 0, .int x1] (65, e, mm_R0, I, J, A, B) = some (.inr 3, (65, e', mm_R0, I', J', A', B'))) : f_L_think [.ref 0, .int x1, .ref 64] (65, e, mm_R0, I, J, A, B) = some (.inl (some (.int (i32 2))), (65, e', mm_R0, I', J', A', B')) := by
  rw [en_L_think, sg_L_think_0, h]
  show mm_run (mm_pr tb_L_think) (16, [some (.ref 0), some (.int x1), some (.ref 64), none], [], (65, e', mm_R0, I', J', A', B')) = _
  rw [sg_L_think_16]
  rfl
theorem wL_clock {x1 : Int32} {x2 : Int32} {v : Int32} (h : f_X10_clock [.ref 0, .int x1, .int x2] (65, e, mm_R0, I, J, A, B) = some (.inl (some (.int v)), (65, e', mm_R0, I', J', A', B'))) : f_L_clock [.ref 0, .int x1, .int x2, .ref 64] (65, e, mm_R0, I, J, A, B) = some (.inl (some (.int (i32 0))), (65, e', mm_R0, I', J', A', mm_up B' 64 0 v.toInt64)) := by
  rw [en_L_clock, sg_L_clock_0, h, mm_aftC_v, sg_L_clock_8, if_pos in01]
  rfl
theorem wL_clock_x1 {x1 : Int32} {x2 : Int32} (h : f_X10_clock [.ref 0, .int x1, .int x2] (65, e, mm_R0, I, J, A, B) = some (.inr 1, (65, e', mm_R0, I', J', A', B'))) : f_L_clock [.ref 0, .int x1, .int x2, .ref 64] (65, e, mm_R0, I, J, A, B) = some (.inl (some (.int (i32 1))), (65, e', mm_R0, I', J', A', B')) := by
  rw [en_L_clock, sg_L_clock_0, h]
  show mm_run (mm_pr tb_L_clock) (15, [some (.ref 0), some (.int x1), some (.int x2), some (.ref 64), none], [], (65, e', mm_R0, I', J', A', B')) = _
  rw [sg_L_clock_15]
  rfl
theorem wL_clock_x2 {x1 : Int32} {x2 : Int32} (h : f_X10_clock [.ref 0, .int x1, .int x2] (65, e, mm_R0, I, J, A, B) = some (.inr 2, (65, e', mm_R0, I', J', A', B'))) : f_L_clock [.ref 0, .int x1, .int x2, .ref 64] (65, e, mm_R0, I, J, A, B) = some (.inl (some (.int (i32 2))), (65, e', mm_R0, I', J', A', B')) := by
  rw [en_L_clock, sg_L_clock_0, h]
  show mm_run (mm_pr tb_L_clock) (19, [some (.ref 0), some (.int x1), some (.int x2), some (.ref 64), none], [], (65, e', mm_R0, I', J', A', B')) = _
  rw [sg_L_clock_19]
  rfl
theorem wL_person  {v : Int32} (h : f_X10_person [.ref 0] (65, e, mm_R0, I, J, A, B) = some (.inl (some (.int v)), (65, e', mm_R0, I', J', A', B'))) : f_L_person [.ref 0, .ref 64] (65, e, mm_R0, I, J, A, B) = some (.inl (some (.int (i32 0))), (65, e', mm_R0, I', J', A', mm_up B' 64 0 v.toInt64)) := by
  rw [en_L_person, sg_L_person_0, h, mm_aftC_v, sg_L_person_6, if_pos in01]
  rfl
theorem wL_person_x3  (h : f_X10_person [.ref 0] (65, e, mm_R0, I, J, A, B) = some (.inr 3, (65, e', mm_R0, I', J', A', B'))) : f_L_person [.ref 0, .ref 64] (65, e, mm_R0, I, J, A, B) = some (.inl (some (.int (i32 1))), (65, e', mm_R0, I', J', A', B')) := by
  rw [en_L_person, sg_L_person_0, h]
  show mm_run (mm_pr tb_L_person) (12, [some (.ref 0), some (.ref 64), none], [], (65, e', mm_R0, I', J', A', B')) = _
  rw [sg_L_person_12]
  rfl
theorem wL_record {x1 : Int32} {x2 : Int32} {v : Int32} (h : f_X10_record [.ref 0, .int x1, .int x2] (65, e, mm_R0, I, J, A, B) = some (.inl (some (.int v)), (65, e', mm_R0, I', J', A', B'))) : f_L_record [.ref 0, .int x1, .int x2, .ref 64] (65, e, mm_R0, I, J, A, B) = some (.inl (some (.int (i32 0))), (65, e', mm_R0, I', J', A', mm_up B' 64 0 v.toInt64)) := by
  rw [en_L_record, sg_L_record_0, h, mm_aftC_v, sg_L_record_8, if_pos in01]
  rfl
theorem wL_record_x1 {x1 : Int32} {x2 : Int32} (h : f_X10_record [.ref 0, .int x1, .int x2] (65, e, mm_R0, I, J, A, B) = some (.inr 1, (65, e', mm_R0, I', J', A', B'))) : f_L_record [.ref 0, .int x1, .int x2, .ref 64] (65, e, mm_R0, I, J, A, B) = some (.inl (some (.int (i32 1))), (65, e', mm_R0, I', J', A', B')) := by
  rw [en_L_record, sg_L_record_0, h]
  show mm_run (mm_pr tb_L_record) (15, [some (.ref 0), some (.int x1), some (.int x2), some (.ref 64), none], [], (65, e', mm_R0, I', J', A', B')) = _
  rw [sg_L_record_15]
  rfl
theorem wL_record_x2 {x1 : Int32} {x2 : Int32} (h : f_X10_record [.ref 0, .int x1, .int x2] (65, e, mm_R0, I, J, A, B) = some (.inr 2, (65, e', mm_R0, I', J', A', B'))) : f_L_record [.ref 0, .int x1, .int x2, .ref 64] (65, e, mm_R0, I, J, A, B) = some (.inl (some (.int (i32 2))), (65, e', mm_R0, I', J', A', B')) := by
  rw [en_L_record, sg_L_record_0, h]
  show mm_run (mm_pr tb_L_record) (19, [some (.ref 0), some (.int x1), some (.int x2), some (.ref 64), none], [], (65, e', mm_R0, I', J', A', B')) = _
  rw [sg_L_record_19]
  rfl
theorem wL_record_x3 {x1 : Int32} {x2 : Int32} (h : f_X10_record [.ref 0, .int x1, .int x2] (65, e, mm_R0, I, J, A, B) = some (.inr 3, (65, e', mm_R0, I', J', A', B'))) : f_L_record [.ref 0, .int x1, .int x2, .ref 64] (65, e, mm_R0, I, J, A, B) = some (.inl (some (.int (i32 3))), (65, e', mm_R0, I', J', A', B')) := by
  rw [en_L_record, sg_L_record_0, h]
  show mm_run (mm_pr tb_L_record) (23, [some (.ref 0), some (.int x1), some (.int x2), some (.ref 64), none], [], (65, e', mm_R0, I', J', A', B')) = _
  rw [sg_L_record_23]
  rfl
theorem wL_ofPerson {x1 : Int32} {x2 : Int32} {v : Int32} (h : f_X10_ofPerson [.ref 0, .int x1, .int x2] (65, e, mm_R0, I, J, A, B) = some (.inl (some (.int v)), (65, e', mm_R0, I', J', A', B'))) : f_L_ofPerson [.ref 0, .int x1, .int x2, .ref 64] (65, e, mm_R0, I, J, A, B) = some (.inl (some (.int (i32 0))), (65, e', mm_R0, I', J', A', mm_up B' 64 0 v.toInt64)) := by
  rw [en_L_ofPerson, sg_L_ofPerson_0, h, mm_aftC_v, sg_L_ofPerson_8, if_pos in01]
  rfl
theorem wL_ofPerson_x1 {x1 : Int32} {x2 : Int32} (h : f_X10_ofPerson [.ref 0, .int x1, .int x2] (65, e, mm_R0, I, J, A, B) = some (.inr 1, (65, e', mm_R0, I', J', A', B'))) : f_L_ofPerson [.ref 0, .int x1, .int x2, .ref 64] (65, e, mm_R0, I, J, A, B) = some (.inl (some (.int (i32 1))), (65, e', mm_R0, I', J', A', B')) := by
  rw [en_L_ofPerson, sg_L_ofPerson_0, h]
  show mm_run (mm_pr tb_L_ofPerson) (15, [some (.ref 0), some (.int x1), some (.int x2), some (.ref 64), none], [], (65, e', mm_R0, I', J', A', B')) = _
  rw [sg_L_ofPerson_15]
  rfl
theorem wL_ofPerson_x2 {x1 : Int32} {x2 : Int32} (h : f_X10_ofPerson [.ref 0, .int x1, .int x2] (65, e, mm_R0, I, J, A, B) = some (.inr 2, (65, e', mm_R0, I', J', A', B'))) : f_L_ofPerson [.ref 0, .int x1, .int x2, .ref 64] (65, e, mm_R0, I, J, A, B) = some (.inl (some (.int (i32 2))), (65, e', mm_R0, I', J', A', B')) := by
  rw [en_L_ofPerson, sg_L_ofPerson_0, h]
  show mm_run (mm_pr tb_L_ofPerson) (19, [some (.ref 0), some (.int x1), some (.int x2), some (.ref 64), none], [], (65, e', mm_R0, I', J', A', B')) = _
  rw [sg_L_ofPerson_19]
  rfl
end
