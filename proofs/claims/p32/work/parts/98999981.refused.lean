/-! what is refused changes nothing -/
theorem cellP_m (N : Nat) : cellP N (-1 : Int32) = false := rfl
section
variable {K R C : Nat} {lg : Nat → Nat} {m : Nat} {sw : Bool} {ea : Nat} {tk : Bool} {se pe us : Nat → Nat} {lo : Nat} {rc : Bool} {t : Nat} {tp : Nat → Nat} {pn : Nat} {ln : Nat → Nat} {tx : Nat → Nat → Nat} {n : Nat} {ra : Nat → Int} {pl wo ls : Nat → Nat} {c : Nat} (e : Nat) (I : Nat → Nat → Int32) (J : Nat → Nat → Int64) (A : Nat → Nat → Int32) (B : Nat → Nat → Int64)
theorem lw_refused (hc : CSd K R C lg m sw ea tk se pe us lo rc t tp pn ln tx n ra pl wo ls I J A B) (hb : BXd K R C lg m sw ea tk se pe us lo rc t tp pn ln tx n ra pl wo ls c) (hD : DRd K R C lg m sw ea tk se pe us lo rc t tp pn ln tx n ra pl wo ls A) : ∃ e', f_L_refused [.ref 0, .ref 78] (79, e, mm_R0, I, J, A, B) = some (.inl (some (.int 1)), (79, e', mm_R0, I, J, A, B)) ∧ e' ≤ e + 32 := by
  have v := hb.1.1
  have bl := bN_le v
  have b3 := bN_pos v
  have hN : A 78 ((0 : Int32)).toInt.toNat = i32 (bN K R C) := hD.1
  have c0 : cellP (bN K R C) (i32 0) = true := by rw [cellP_i bl (by decide)]; exact decide_eq_true (by omega)
  have m60 : m ≤ 60 := by have := hc.1.2.1.2.2.1; omega
  have sd := bSd_le (K := K)
  have sd2 : 2 ≤ bSd K := by unfold bSd; cases Nat.beq K 0 <;> cases Nat.beq K 1 <;> decide
  have e100 : ∀ x : Nat, 100 ≤ x → x < 104 → endP (bN K R C) (bSd K) (i32 x) = decide (x < 100 + bSd K) := fun x h1 h2 => by
    unfold endP
    rw [cellP_i bl (by omega), decide_eq_false (show ¬ x < bN K R C by omega), Bool.false_or, decide_eq_false (show ¬ i32 x < i32 100 by rw [i32_lt (by omega) (by decide)]; omega), Bool.not_false, Bool.true_and, decide_eq_decide, i32_lt (by omega) (by omega)]
  have pn6 : pn ≤ 6 := hc.2.2.2.2.1.2.1
  have n10 : n ≤ 10 := hc.2.2.2.2.2.2.2.1
  have fi1 : (cellP pn (6 : Int32) && plaP (0 : Int32)) = false := by
    rw [show (6 : Int32) = i32 6 from rfl, cellP_i (by omega) (by decide), decide_eq_false (show ¬ 6 < pn by omega)]; rfl
  have fi2 : (cellP pn (-1 : Int32) && plaP (0 : Int32)) = false := rfl
  have pe2 : cellP n (10 : Int32) = false := by
    rw [show (10 : Int32) = i32 10 from rfl, cellP_i (by omega) (by decide)]; exact decide_eq_false (by omega)
  have pe1 : (cellP n (10 : Int32) && cellP n (0 : Int32)) = false := by rw [pe2]; rfl
  have an1 : ∀ e, f_X10_answer [.ref 0, .int (2 : Int32), .int (100 : Int32), .int (101 : Int32), .int (0 : Int32)] (79, e, mm_R0, I, J, A, B) = some (.inr 1, (79, e + 1, mm_R0, I, J, A, B)) := fun e => by
    have h : lkC K R C lg m sw (cellP (bN K R C) (0 : Int32)) (2 : Int32) (100 : Int32) (101 : Int32) = 1 := by
      unfold lkC
      rw [show plaP (2 : Int32) = false from by decide +kernel]; rfl
    have := cC_answer_no e I J A B hc.1 (p := (2 : Int32)) (one := (100 : Int32)) (oth := (101 : Int32)) (cl := (0 : Int32)) (by rw [h]; decide)
    rw [h] at this
    exact this
  have an2 : ∀ e, f_X10_answer [.ref 0, .int (0 : Int32), .int (100 : Int32), .int (101 : Int32), .int (i32 (bN K R C))] (79, e, mm_R0, I, J, A, B) = some (.inr 1, (79, e + 1, mm_R0, I, J, A, B)) := fun e => by
    have h : lkC K R C lg m sw (cellP (bN K R C) (i32 (bN K R C))) (0 : Int32) (100 : Int32) (101 : Int32) = 1 := lkC_ex _ _ _ _ (by rw [cellP_i bl (by omega)]; exact decide_eq_false (Nat.lt_irrefl _))
    have := cC_answer_no e I J A B hc.1 (p := (0 : Int32)) (one := (100 : Int32)) (oth := (101 : Int32)) (cl := i32 (bN K R C)) (by rw [h]; decide)
    rw [h] at this
    exact this
  have an3 : ∀ e, f_X10_answer [.ref 0, .int (0 : Int32), .int (100 : Int32), .int (100 : Int32), .int (0 : Int32)] (79, e, mm_R0, I, J, A, B) = some (.inr 2, (79, e + 1, mm_R0, I, J, A, B)) := fun e => by
    have h : lkC K R C lg m sw (cellP (bN K R C) (0 : Int32)) (0 : Int32) (100 : Int32) (100 : Int32) = 2 := by
      unfold lkC
      rw [show plaP (0 : Int32) = true from by decide +kernel, show (100 : Int32) = i32 100 from rfl, e100 100 (by decide) (by decide), decide_eq_true (show 100 < 100 + bSd K by omega), show cellP (bN K R C) (0 : Int32) = true from c0, if_neg (by decide), if_pos (Or.inl rfl)]
    have := cC_answer_no e I J A B hc.1 (p := (0 : Int32)) (one := (100 : Int32)) (oth := (100 : Int32)) (cl := (0 : Int32)) (by rw [h]; decide)
    rw [h] at this
    exact this
  have ca1 : ∀ e, f_X10_carrier [.ref 0, .int (0 : Int32), .int (100 : Int32), .int (104 : Int32)] (79, e, mm_R0, I, J, A, B) = some (.inr 1, (79, e + 1, mm_R0, I, J, A, B)) := fun e => by
    have h : lkC K R C lg m sw true (0 : Int32) (100 : Int32) (104 : Int32) = 1 := by
      unfold lkC
      have e4 : endP (bN K R C) (bSd K) (104 : Int32) = false := by
        unfold endP
        rw [show (104 : Int32) = i32 104 from rfl, cellP_i bl (by decide), decide_eq_false (show ¬ 104 < bN K R C by omega), Bool.false_or, decide_eq_false (show ¬ i32 104 < i32 (100 + bSd K) by rw [i32_lt (by decide) (by omega)]; omega), Bool.and_false]
      rw [e4, Bool.and_false, Bool.false_and, if_pos rfl]
    have := cC_carrier_no e I J A B hc.1 (p := (0 : Int32)) (one := (100 : Int32)) (oth := (104 : Int32)) (by rw [h]; decide)
    rw [h] at this
    exact this
  rw [en_L_refused, sg_L_refused_0, lw_all e I J A B hc hb hD, mm_aft_v]
  rw [sg_L_refused_5, wx_game_2 (e) I J A B _ _ _ _ (cC_game_1 (e) I J A B (by decide +kernel)), mm_aft_v]
  rw [sg_L_refused_15, if_pos rfl, wx_game_2 (e + 1) I J A B _ _ _ _ (cC_game_1 (e + 1) I J A B (by decide +kernel)), mm_aft_v]
  rw [sg_L_refused_29, if_pos rfl, wx_game_2 (e + 1 + 1) I J A B _ _ _ _ (cC_game_1 (e + 1 + 1) I J A B (by decide +kernel)), mm_aft_v]
  rw [sg_L_refused_44, if_pos rfl, hN, wx_move_1 (e + 1 + 1 + 1) I J A B _ _ _ _ (cC_move_1 (e + 1 + 1 + 1) I J A B hc.1.1 (by rw [cellP_i bl (by omega)]; exact decide_eq_false (Nat.lt_irrefl _))), mm_aft_v]
  rw [sg_L_refused_60, if_pos rfl, wx_move_1 (e + 1 + 1 + 1 + 1) I J A B _ _ _ _ (cC_move_1 (e + 1 + 1 + 1 + 1) I J A B hc.1.1 (cellP_m _)), mm_aft_v]
  rw [sg_L_refused_74, if_pos rfl, wx_told_2 (e + 1 + 1 + 1 + 1 + 1) I J A B _ _ _ _ (cC_told_1 (e + 1 + 1 + 1 + 1 + 1) I J A B (by decide +kernel)), mm_aft_v]
  rw [sg_L_refused_88, if_pos rfl, hN, wx_cell_1 (e + 1 + 1 + 1 + 1 + 1 + 1) I J A B _ _ _ _ (cC_cell_1 (e + 1 + 1 + 1 + 1 + 1 + 1) I J A B hc.1.1 (by rw [cellP_i bl (by omega)]; exact decide_eq_false (Nat.lt_irrefl _))), mm_aft_v]
  rw [sg_L_refused_104, if_pos rfl, wx_cell_2 (e + 1 + 1 + 1 + 1 + 1 + 1 + 1) I J A B _ _ _ _ (cC_cell_2 (e + 1 + 1 + 1 + 1 + 1 + 1 + 1) I J A B hc.1.1 (show cellP (bN K R C) (0 : Int32) = true from c0) (by decide +kernel)), mm_aft_v]
  rw [sg_L_refused_118, if_pos rfl, wx_neighbour_1 (e + 1 + 1 + 1 + 1 + 1 + 1 + 1 + 1) I J A B _ _ _ _ (cC_neighbour_1 (e + 1 + 1 + 1 + 1 + 1 + 1 + 1 + 1) I J A B hc.1.1 (cellP_m _)), mm_aft_v]
  rw [sg_L_refused_133, if_pos rfl, wx_neighbour_2 (e + 1 + 1 + 1 + 1 + 1 + 1 + 1 + 1 + 1) I J A B _ _ _ _ (cC_neighbour_2 (e + 1 + 1 + 1 + 1 + 1 + 1 + 1 + 1 + 1) I J A B hc.1.1 (show cellP (bN K R C) (0 : Int32) = true from c0) (by decide +kernel)), mm_aft_v]
  rw [sg_L_refused_148, if_pos rfl, wx_answer_1 (e + 1 + 1 + 1 + 1 + 1 + 1 + 1 + 1 + 1 + 1) I J A B _ _ _ _ (an1 (e + 1 + 1 + 1 + 1 + 1 + 1 + 1 + 1 + 1 + 1)), mm_aft_v]
  rw [sg_L_refused_165, if_pos rfl, hN, wx_answer_1 (e + 1 + 1 + 1 + 1 + 1 + 1 + 1 + 1 + 1 + 1 + 1) I J A B _ _ _ _ (an2 (e + 1 + 1 + 1 + 1 + 1 + 1 + 1 + 1 + 1 + 1 + 1)), mm_aft_v]
  rw [sg_L_refused_184, if_pos rfl, wx_answer_2 (e + 1 + 1 + 1 + 1 + 1 + 1 + 1 + 1 + 1 + 1 + 1 + 1) I J A B _ _ _ _ (an3 (e + 1 + 1 + 1 + 1 + 1 + 1 + 1 + 1 + 1 + 1 + 1 + 1)), mm_aft_v]
  rw [sg_L_refused_201, if_pos rfl, wx_gaveAway_1 (e + 1 + 1 + 1 + 1 + 1 + 1 + 1 + 1 + 1 + 1 + 1 + 1 + 1) I J A B _ _ _ _ (cC_gave_1 (e + 1 + 1 + 1 + 1 + 1 + 1 + 1 + 1 + 1 + 1 + 1 + 1 + 1) I J A B hc.1 (x := 60) (Or.inr ⟨60, by decide, rfl, m60⟩)), mm_aft_v]
  rw [sg_L_refused_217, if_pos rfl, wx_gaveAway_1 (e + 1 + 1 + 1 + 1 + 1 + 1 + 1 + 1 + 1 + 1 + 1 + 1 + 1 + 1) I J A B _ _ _ _ (cC_gave_1 (e + 1 + 1 + 1 + 1 + 1 + 1 + 1 + 1 + 1 + 1 + 1 + 1 + 1 + 1) I J A B hc.1 (x := -1) (Or.inl (by decide))), mm_aft_v]
  rw [sg_L_refused_232, if_pos rfl, wx_far_1 (e + 1 + 1 + 1 + 1 + 1 + 1 + 1 + 1 + 1 + 1 + 1 + 1 + 1 + 1 + 1) I J A B _ _ _ _ (cC_far_1 (e + 1 + 1 + 1 + 1 + 1 + 1 + 1 + 1 + 1 + 1 + 1 + 1 + 1 + 1 + 1) I J A B (by decide +kernel)), mm_aft_v]
  rw [sg_L_refused_247, if_pos rfl]
  rw [sg_L_refused_257, if_neg (by decide), wx_plays_2 (e + 1 + 1 + 1 + 1 + 1 + 1 + 1 + 1 + 1 + 1 + 1 + 1 + 1 + 1 + 1 + 1) I J A B _ _ _ _ (cC_plays_1 (e + 1 + 1 + 1 + 1 + 1 + 1 + 1 + 1 + 1 + 1 + 1 + 1 + 1 + 1 + 1 + 1) I J A B (by decide +kernel)), mm_aft_v]
  rw [sg_L_refused_274, if_pos rfl, wx_plays_2 (e + 1 + 1 + 1 + 1 + 1 + 1 + 1 + 1 + 1 + 1 + 1 + 1 + 1 + 1 + 1 + 1 + 1) I J A B _ _ _ _ (cC_plays_1 (e + 1 + 1 + 1 + 1 + 1 + 1 + 1 + 1 + 1 + 1 + 1 + 1 + 1 + 1 + 1 + 1 + 1) I J A B (by decide +kernel)), mm_aft_v]
  rw [sg_L_refused_289, if_pos rfl, wx_playedOut_2 (e + 1 + 1 + 1 + 1 + 1 + 1 + 1 + 1 + 1 + 1 + 1 + 1 + 1 + 1 + 1 + 1 + 1 + 1) I J A B _ _ _ (cC_playedOut_1 (e + 1 + 1 + 1 + 1 + 1 + 1 + 1 + 1 + 1 + 1 + 1 + 1 + 1 + 1 + 1 + 1 + 1 + 1) I J A B (by decide +kernel)), mm_aft_v]
  rw [sg_L_refused_303, if_pos rfl, wx_carrier_1 (e + 1 + 1 + 1 + 1 + 1 + 1 + 1 + 1 + 1 + 1 + 1 + 1 + 1 + 1 + 1 + 1 + 1 + 1 + 1) I J A B _ _ _ (ca1 (e + 1 + 1 + 1 + 1 + 1 + 1 + 1 + 1 + 1 + 1 + 1 + 1 + 1 + 1 + 1 + 1 + 1 + 1 + 1)), mm_aft_v]
  rw [sg_L_refused_320, if_pos rfl, wx_fits_1 (e + 1 + 1 + 1 + 1 + 1 + 1 + 1 + 1 + 1 + 1 + 1 + 1 + 1 + 1 + 1 + 1 + 1 + 1 + 1 + 1) I J A B _ _ _ (cC_fits_1 (e + 1 + 1 + 1 + 1 + 1 + 1 + 1 + 1 + 1 + 1 + 1 + 1 + 1 + 1 + 1 + 1 + 1 + 1 + 1 + 1) I J A B hc.2.2.2.2.1 fi1), mm_aft_v]
  rw [sg_L_refused_336, if_pos rfl, wx_fitsAnew_1 (e + 1 + 1 + 1 + 1 + 1 + 1 + 1 + 1 + 1 + 1 + 1 + 1 + 1 + 1 + 1 + 1 + 1 + 1 + 1 + 1 + 1) I J A B _ _ _ (cC_fitsAnew_1 (e + 1 + 1 + 1 + 1 + 1 + 1 + 1 + 1 + 1 + 1 + 1 + 1 + 1 + 1 + 1 + 1 + 1 + 1 + 1 + 1 + 1) I J A B hc.2.2.2.2.1 fi2), mm_aft_v]
  rw [sg_L_refused_351, if_pos rfl, wx_type_2 (e + 1 + 1 + 1 + 1 + 1 + 1 + 1 + 1 + 1 + 1 + 1 + 1 + 1 + 1 + 1 + 1 + 1 + 1 + 1 + 1 + 1 + 1) I J A B _ _ (cC_type_1 (e + 1 + 1 + 1 + 1 + 1 + 1 + 1 + 1 + 1 + 1 + 1 + 1 + 1 + 1 + 1 + 1 + 1 + 1 + 1 + 1 + 1 + 1) I J A B (by decide +kernel)), mm_aft_v]
  rw [sg_L_refused_366, if_pos rfl, wx_type_2 (e + 1 + 1 + 1 + 1 + 1 + 1 + 1 + 1 + 1 + 1 + 1 + 1 + 1 + 1 + 1 + 1 + 1 + 1 + 1 + 1 + 1 + 1 + 1) I J A B _ _ (cC_type_1 (e + 1 + 1 + 1 + 1 + 1 + 1 + 1 + 1 + 1 + 1 + 1 + 1 + 1 + 1 + 1 + 1 + 1 + 1 + 1 + 1 + 1 + 1 + 1) I J A B (by decide +kernel)), mm_aft_v]
  rw [sg_L_refused_379, if_pos rfl, wx_clocks_2 (e + 1 + 1 + 1 + 1 + 1 + 1 + 1 + 1 + 1 + 1 + 1 + 1 + 1 + 1 + 1 + 1 + 1 + 1 + 1 + 1 + 1 + 1 + 1 + 1) I J A B _ _ _ _ (cC_clocks_1 (e + 1 + 1 + 1 + 1 + 1 + 1 + 1 + 1 + 1 + 1 + 1 + 1 + 1 + 1 + 1 + 1 + 1 + 1 + 1 + 1 + 1 + 1 + 1 + 1) I J A B (by decide +kernel)), mm_aft_v]
  rw [sg_L_refused_394, if_pos rfl, wx_clocks_2 (e + 1 + 1 + 1 + 1 + 1 + 1 + 1 + 1 + 1 + 1 + 1 + 1 + 1 + 1 + 1 + 1 + 1 + 1 + 1 + 1 + 1 + 1 + 1 + 1 + 1) I J A B _ _ _ _ (cC_clocks_1 (e + 1 + 1 + 1 + 1 + 1 + 1 + 1 + 1 + 1 + 1 + 1 + 1 + 1 + 1 + 1 + 1 + 1 + 1 + 1 + 1 + 1 + 1 + 1 + 1 + 1) I J A B (by decide +kernel)), mm_aft_v]
  rw [sg_L_refused_409, if_pos rfl, wx_think_2 (e + 1 + 1 + 1 + 1 + 1 + 1 + 1 + 1 + 1 + 1 + 1 + 1 + 1 + 1 + 1 + 1 + 1 + 1 + 1 + 1 + 1 + 1 + 1 + 1 + 1 + 1) I J A B _ _ _ _ (cC_think_1 (e + 1 + 1 + 1 + 1 + 1 + 1 + 1 + 1 + 1 + 1 + 1 + 1 + 1 + 1 + 1 + 1 + 1 + 1 + 1 + 1 + 1 + 1 + 1 + 1 + 1 + 1) I J A B (by decide +kernel)), mm_aft_v]
  rw [sg_L_refused_424, if_pos rfl, wx_think_2 (e + 1 + 1 + 1 + 1 + 1 + 1 + 1 + 1 + 1 + 1 + 1 + 1 + 1 + 1 + 1 + 1 + 1 + 1 + 1 + 1 + 1 + 1 + 1 + 1 + 1 + 1 + 1) I J A B _ _ _ _ (cC_think_1 (e + 1 + 1 + 1 + 1 + 1 + 1 + 1 + 1 + 1 + 1 + 1 + 1 + 1 + 1 + 1 + 1 + 1 + 1 + 1 + 1 + 1 + 1 + 1 + 1 + 1 + 1 + 1) I J A B (by decide +kernel)), mm_aft_v]
  rw [sg_L_refused_441, if_pos rfl, wx_clock_1 (e + 1 + 1 + 1 + 1 + 1 + 1 + 1 + 1 + 1 + 1 + 1 + 1 + 1 + 1 + 1 + 1 + 1 + 1 + 1 + 1 + 1 + 1 + 1 + 1 + 1 + 1 + 1 + 1) I J A B _ _ _ _ (cC_clock_1 (e + 1 + 1 + 1 + 1 + 1 + 1 + 1 + 1 + 1 + 1 + 1 + 1 + 1 + 1 + 1 + 1 + 1 + 1 + 1 + 1 + 1 + 1 + 1 + 1 + 1 + 1 + 1 + 1) I J A B (by decide +kernel)), mm_aft_v]
  rw [sg_L_refused_456, if_pos rfl, wx_clock_2 (e + 1 + 1 + 1 + 1 + 1 + 1 + 1 + 1 + 1 + 1 + 1 + 1 + 1 + 1 + 1 + 1 + 1 + 1 + 1 + 1 + 1 + 1 + 1 + 1 + 1 + 1 + 1 + 1 + 1) I J A B _ _ _ _ (cC_clock_2 (e + 1 + 1 + 1 + 1 + 1 + 1 + 1 + 1 + 1 + 1 + 1 + 1 + 1 + 1 + 1 + 1 + 1 + 1 + 1 + 1 + 1 + 1 + 1 + 1 + 1 + 1 + 1 + 1 + 1) I J A B (by decide +kernel) (by decide +kernel)), mm_aft_v]
  rw [sg_L_refused_471, if_pos rfl, wx_record_1 (e + 1 + 1 + 1 + 1 + 1 + 1 + 1 + 1 + 1 + 1 + 1 + 1 + 1 + 1 + 1 + 1 + 1 + 1 + 1 + 1 + 1 + 1 + 1 + 1 + 1 + 1 + 1 + 1 + 1 + 1) I J A B _ _ _ _ (cC_record_1 (e + 1 + 1 + 1 + 1 + 1 + 1 + 1 + 1 + 1 + 1 + 1 + 1 + 1 + 1 + 1 + 1 + 1 + 1 + 1 + 1 + 1 + 1 + 1 + 1 + 1 + 1 + 1 + 1 + 1 + 1) I J A B hc.2.2.2.2.2.2 pe1), mm_aft_v]
  rw [sg_L_refused_487, if_pos rfl, wx_ofPerson_1 (e + 1 + 1 + 1 + 1 + 1 + 1 + 1 + 1 + 1 + 1 + 1 + 1 + 1 + 1 + 1 + 1 + 1 + 1 + 1 + 1 + 1 + 1 + 1 + 1 + 1 + 1 + 1 + 1 + 1 + 1 + 1) I J A B _ _ _ _ (cC_ofPerson_1 (e + 1 + 1 + 1 + 1 + 1 + 1 + 1 + 1 + 1 + 1 + 1 + 1 + 1 + 1 + 1 + 1 + 1 + 1 + 1 + 1 + 1 + 1 + 1 + 1 + 1 + 1 + 1 + 1 + 1 + 1 + 1) I J A B hc.2.2.2.2.2.2 pe2), mm_aft_v]
  rw [sg_L_refused_503, if_pos rfl, lw_all (e + 1 + 1 + 1 + 1 + 1 + 1 + 1 + 1 + 1 + 1 + 1 + 1 + 1 + 1 + 1 + 1 + 1 + 1 + 1 + 1 + 1 + 1 + 1 + 1 + 1 + 1 + 1 + 1 + 1 + 1 + 1 + 1) I J A B hc hb hD, mm_aft_v]
  rw [sg_L_refused_513, if_pos rfl, sg_L_refused_523, if_pos (Or.inr rfl)]
  exact ⟨_, rfl, by omega⟩
end
