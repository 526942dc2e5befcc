/-! moves put and taken back in the class -/
def lgp (lg : Nat → Nat) (m c : Nat) : Nat → Nat := fun i => if i = m then c else lg i
section
variable (k : Nat) (r : Nat → Nat → Value) (e : Nat) (I : Nat → Nat → Int32) (J : Nat → Nat → Int64) (A : Nat → Nat → Int32) (B : Nat → Nat → Int64)
theorem sp_begin {K R C : Nat} (hb : CB K R C I J A B) : f_X6_begin [.ref 7] (k + 9, e, (mm_RP r), I, J, A, B) = some (.inl none, (k + 9, e, (mm_RP r), mm_up (mm_up (mm_up I 7 2 (i32 0)) 7 3 (i32 0)) 7 6 (jnd K R C 0 0), mm_up (mm_up J 7 4 0) 7 5 0, A, B)) := by
  have hb2 : CB K R C (mm_up (mm_up I 7 2 (i32 0)) 7 3 (i32 0)) J A B := hb.fr (by rw [mm_up_row _ _ _ _ _ (by decide), mm_up_row _ _ _ _ _ (by decide)]) rfl rfl rfl rfl rfl rfl
  have hp : PL (fun _ => 0) 0 false (mm_up (mm_up I 7 2 (i32 0)) 7 3 (i32 0)) A := ⟨by rw [mm_up_ne2 _ _ _ _ _ _ (by decide), mm_up_eq], by rw [mm_up_eq]; rfl, by decide, fun i h => by omega⟩
  rw [en_X6_begin, sg_X6_begin_0]
  simp only [i32_l]
  rw [sp_settle k r e _ J A B hb2 hp, mm_aft_n, sg_X6_begin_14]
  rfl
theorem PL.put {lg : Nat → Nat} {m c : Nat} {sw : Bool} {I : Nat → Nat → Int32} {A : Nat → Nat → Int32} (h : PL lg m sw I A) (hm : m < 37) : PL (lgp lg m c) (m + 1) sw (mm_up I 7 2 (i32 (m + 1))) (mm_up A 8 m (i32 c)) := by
  obtain ⟨h1, h2, h3, h4⟩ := h
  refine ⟨by rw [mm_up_eq], by rw [mm_up_ne2 _ _ _ _ _ _ (by decide)]; exact h2, by omega, fun i hi => ?_⟩
  unfold lgp
  by_cases q : i = m
  · rw [if_pos q, q, mm_up_eq]
  · rw [if_neg q, mm_up_ne2 _ _ _ _ _ _ q]; exact h4 i (by omega)
theorem sp_put {K R C : Nat} {lg : Nat → Nat} {m c : Nat} {sw : Bool} (hb : CB K R C I J A B) (h : PL lg m sw I A) (hm : m < 37) : f_X6_put [.ref 7, .int (i32 c)] (k + 9, e, (mm_RP r), I, J, A, B) = some (.inl none, (k + 9, e, (mm_RP r), mm_up (mm_up I 7 2 (i32 (m + 1))) 7 6 (jnd K R C (stN (lgp lg m c) (kf sw (m + 1)) 0 (m + 1)) (stN (lgp lg m c) (kf sw (m + 1)) 1 (m + 1))), mm_up (mm_up J 7 4 (stN (lgp lg m c) (kf sw (m + 1)) 0 (m + 1))) 7 5 (stN (lgp lg m c) (kf sw (m + 1)) 1 (m + 1)), mm_up A 8 m (i32 c), B)) := by
  have hb2 : CB K R C (mm_up I 7 2 (i32 (m + 1))) J (mm_up A 8 m (i32 c)) B := hb.fr (by rw [mm_up_row _ _ _ _ _ (by decide)]) rfl (by rw [mm_up_row _ _ _ _ _ (by decide)]) (by rw [mm_up_row _ _ _ _ _ (by decide)]) (by rw [mm_up_row _ _ _ _ _ (by decide)]) rfl rfl
  rw [en_X6_put, sg_X6_put_0, h.1]
  simp (disch := omega) only [i32_l, iN_l, i32_add, i32_mul, i32_r0, i32_r1, run_bi, run_bi', i32_sub, decide_eq_true_eq, bi_rt, bi_em, bi_0, bi_1, i32_lt, i32_eq, iN_ne, iN_lt, iN_nlt, i32_ix, i32_in,  mm_aft_v, mm_aft_n, mm_aft_x, if_pos, if_neg, ite_true, ite_false, if_true, if_false, not_false_eq_true, not_true_eq_false]
  rw [sg_X6_put_39, sp_settle k r e _ J _ B hb2 (h.put hm), mm_aft_n, sg_X6_put_43]
theorem sp_takeBack {K R C : Nat} {lg : Nat → Nat} {m : Nat} {sw : Bool} (hb : CB K R C I J A B) (h : PL lg m sw I A) (hm : 0 < m) : f_X6_takeBack [.ref 7] (k + 9, e, (mm_RP r), I, J, A, B) = some (.inl none, (k + 9, e, (mm_RP r), mm_up (mm_up (mm_up I 7 2 (i32 (m - 1))) 7 3 (bi (sw && Nat.blt 1 (m - 1)))) 7 6 (jnd K R C (stN lg (kf (sw && Nat.blt 1 (m - 1)) (m - 1)) 0 (m - 1)) (stN lg (kf (sw && Nat.blt 1 (m - 1)) (m - 1)) 1 (m - 1))), mm_up (mm_up J 7 4 (stN lg (kf (sw && Nat.blt 1 (m - 1)) (m - 1)) 0 (m - 1))) 7 5 (stN lg (kf (sw && Nat.blt 1 (m - 1)) (m - 1)) 1 (m - 1)), A, B)) := by
  obtain ⟨h1, h2, h3, h4⟩ := h
  have fin : ∀ b : Bool, mm_run (mm_pr tb_X6_takeBack) (31, [some (.ref 7)], [.int (bi b), .ref 7], (k + 9, e, (mm_RP r), mm_up I 7 2 (i32 (m - 1)), J, A, B)) = some (.inl none, (k + 9, e, (mm_RP r), mm_up (mm_up (mm_up I 7 2 (i32 (m - 1))) 7 3 (bi b)) 7 6 (jnd K R C (stN lg (kf b (m - 1)) 0 (m - 1)) (stN lg (kf b (m - 1)) 1 (m - 1))), mm_up (mm_up J 7 4 (stN lg (kf b (m - 1)) 0 (m - 1))) 7 5 (stN lg (kf b (m - 1)) 1 (m - 1)), A, B)) := by
    intro b
    have hb2 : CB K R C (mm_up (mm_up I 7 2 (i32 (m - 1))) 7 3 (bi b)) J A B := hb.fr (by rw [mm_up_row _ _ _ _ _ (by decide), mm_up_row _ _ _ _ _ (by decide)]) rfl rfl rfl rfl rfl rfl
    have hp : PL lg (m - 1) b (mm_up (mm_up I 7 2 (i32 (m - 1))) 7 3 (bi b)) A := ⟨by rw [mm_up_ne2 _ _ _ _ _ _ (by decide), mm_up_eq], by rw [mm_up_eq], by omega, fun i hi => h4 i (by omega)⟩
    rw [sg_X6_takeBack_31, if_pos (bi_ok b), sp_settle k r e _ J A B hb2 hp, mm_aft_n, sg_X6_takeBack_38]
  rw [en_X6_takeBack, sg_X6_takeBack_0, h1, h2]
  simp only [i32_l]
  rw [i32_sub (by omega : 1 ≤ m)]
  cases sw with
  | false =>
    rw [if_pos (show bi false = i32 0 from rfl), sg_X6_takeBack_30, Bool.false_and]
    exact fin false
  | true =>
    rw [if_neg (show ¬ bi true = i32 0 by decide), Bool.true_and]
    by_cases q : 1 < m - 1
    · have e1 : Nat.blt 1 (m - 1) = true := by rw [Nat.blt_eq]; exact q
      rw [if_pos ((i32_lt (by decide) (by omega)).2 q), e1]
      exact fin true
    · have e1 : Nat.blt 1 (m - 1) = false := bool_f (by rw [Nat.blt_eq]; exact q)
      rw [if_neg (fun z => q ((i32_lt (by decide) (by omega)).1 z)), e1, sg_X6_takeBack_30]
      exact fin false
theorem sp_mover {lg : Nat → Nat} {m : Nat} {sw : Bool} (h : PL lg m sw I A) : f_X6_mover [.ref 7] (k + 9, e, (mm_RP r), I, J, A, B) = some (.inl (some (.int (i32 (m % 2)))), (k + 9, e, (mm_RP r), I, J, A, B)) := by
  obtain ⟨h1, h2, h3, h4⟩ := h
  rw [en_X6_mover, sg_X6_mover_0, h1]
  simp only [i32_l]
  rw [i32_and1 (by omega)]
theorem sp_stones {p : Nat} (hp : p < 2) : f_X6_stones [.ref 7, .int (i32 p)] (k + 9, e, (mm_RP r), I, J, A, B) = some (.inl (some (.long (J 7 (4 + p)))), (k + 9, e, (mm_RP r), I, J, A, B)) := by
  rw [en_X6_stones, sg_X6_stones_0]
  have : p = 0 ∨ p = 1 := by omega
  rcases this with q | q
  · subst q; simp (disch := omega) only [i32_l, iN_l, i32_add, i32_mul, i32_r0, i32_r1, run_bi, run_bi', i32_sub, decide_eq_true_eq, bi_rt, bi_em, bi_0, bi_1, i32_lt, i32_eq, iN_ne, iN_lt, iN_nlt, i32_ix, i32_in,  mm_aft_v, mm_aft_n, mm_aft_x, if_pos, if_neg, ite_true, ite_false, if_true, if_false, not_false_eq_true, not_true_eq_false, sg_X6_stones_15]
  · subst q; simp (disch := omega) only [i32_l, iN_l, i32_add, i32_mul, i32_r0, i32_r1, run_bi, run_bi', i32_sub, decide_eq_true_eq, bi_rt, bi_em, bi_0, bi_1, i32_lt, i32_eq, iN_ne, iN_lt, iN_nlt, i32_ix, i32_in,  mm_aft_v, mm_aft_n, mm_aft_x, if_pos, if_neg, ite_true, ite_false, if_true, if_false, not_false_eq_true, not_true_eq_false, sg_X6_stones_15]
theorem sp_empty : f_X6_empty [.ref 7] (k + 9, e, (mm_RP r), I, J, A, B) = some (.inl (some (.long (J 1 10 &&& ((J 7 4 ||| J 7 5) ^^^ (-1))))), (k + 9, e, (mm_RP r), I, J, A, B)) := by
  rw [en_X6_empty, sg_X6_empty_0]
theorem sp_owner {c : Nat} (hc : c < 64) : f_X6_owner [.ref 7, .int (i32 c)] (k + 9, e, (mm_RP r), I, J, A, B) = some (.inl (some (.int (bif mb (J 7 4) c then i32 0 else bif mb (J 7 5) c then i32 1 else iN))), (k + 9, e, (mm_RP r), I, J, A, B)) := by
  rw [en_X6_owner, sg_X6_owner_0, sp_has _ _ hc, mm_aft_v, sg_X6_owner_8]
  cases q0 : mb (J 7 4) c with
  | true => simp (disch := omega) only [i32_l, iN_l, i32_add, i32_mul, i32_r0, i32_r1, run_bi, run_bi', i32_sub, decide_eq_true_eq, bi_rt, bi_em, bi_0, bi_1, i32_lt, i32_eq, iN_ne, iN_lt, iN_nlt, i32_ix, i32_in,  mm_aft_v, mm_aft_n, mm_aft_x, if_pos, if_neg, ite_true, ite_false, if_true, if_false, not_false_eq_true, not_true_eq_false, sg_X6_owner_31]; rfl
  | false =>
    simp (disch := omega) only [i32_l, iN_l, i32_add, i32_mul, i32_r0, i32_r1, run_bi, run_bi', i32_sub, decide_eq_true_eq, bi_rt, bi_em, bi_0, bi_1, i32_lt, i32_eq, iN_ne, iN_lt, iN_nlt, i32_ix, i32_in,  mm_aft_v, mm_aft_n, mm_aft_x, if_pos, if_neg, ite_true, ite_false, if_true, if_false, not_false_eq_true, not_true_eq_false, Bool.false_eq_true]
    rw [sp_has _ _ hc, mm_aft_v, sg_X6_owner_23]
    cases q1 : mb (J 7 5) c with
    | true => simp (disch := omega) only [i32_l, iN_l, i32_add, i32_mul, i32_r0, i32_r1, run_bi, run_bi', i32_sub, decide_eq_true_eq, bi_rt, bi_em, bi_0, bi_1, i32_lt, i32_eq, iN_ne, iN_lt, iN_nlt, i32_ix, i32_in,  mm_aft_v, mm_aft_n, mm_aft_x, if_pos, if_neg, ite_true, ite_false, if_true, if_false, not_false_eq_true, not_true_eq_false, sg_X6_owner_31]; rfl
    | false => simp (disch := omega) only [i32_l, iN_l, i32_add, i32_mul, i32_r0, i32_r1, run_bi, run_bi', i32_sub, decide_eq_true_eq, bi_rt, bi_em, bi_0, bi_1, i32_lt, i32_eq, iN_ne, iN_lt, iN_nlt, i32_ix, i32_in,  mm_aft_v, mm_aft_n, mm_aft_x, if_pos, if_neg, ite_true, ite_false, if_true, if_false, not_false_eq_true, not_true_eq_false, Bool.false_eq_true, sg_X6_owner_31]; rfl
end
