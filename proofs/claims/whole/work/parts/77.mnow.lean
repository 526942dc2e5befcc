/-! the reference: moves, winner, empty cells, groups -/
theorem i32_mod2 {m : Nat} (h : m < 2147483648) : i32 m - i32 m / i32 2 * i32 2 = i32 (m % 2) := by
  have e : i32 m / i32 2 = i32 (m / 2) := by
    apply Int32.toInt_inj.1
    rw [Int32.toInt_div, i32_toInt h, i32_toInt (by decide : 2 < 2147483648), i32_toInt (by omega)]
    have t : (m : Int).tdiv ((2 : Nat) : Int) = ((m / 2 : Nat) : Int) := rfl
    rw [t, Int.bmod_eq_of_le (by omega) (by omega)]
  rw [e, i32_mul, i32_sub (by omega)]
  congr 1
  omega
section
variable (k : Nat) (r : Nat → Nat → Value) (e : Nat) (I : Nat → Nat → Int32) (J : Nat → Nat → Int64) (A : Nat → Nat → Int32) (B : Nat → Nat → Int64)
theorem sp_Mturn {m : Nat} (h : I 39 10 = i32 m) (hm : m ≤ 37) : f_X11_turn [.ref 39] (k + 64, e, (mm_RM r), I, J, A, B) = some (.inl (some (.int (i32 (m % 2)))), (k + 64, e, (mm_RM r), I, J, A, B)) := by
  rw [en_X11_turn, sg_X11_turn_0, h]
  simp only [i32_l]
  rw [i32_mod2 (by omega)]
theorem sp_Mjoined {K R C : Nat} (h : MB K R C I A B) (s0 s1 : Int64) : f_X11_joined [.ref 39, .long s0, .long s1] (k + 64, e, (mm_RM r), I, J, A, B) = some (.inl (some (.int (jnd K R C s0 s1))), (k + 64, e, (mm_RM r), I, J, A, B)) := by
  rw [en_X11_joined, sg_X11_joined_0]
  simp only [i32_l]
  rw [sp_Mjoins k r e I J A B h (by decide), mm_aft_v, sg_X11_joined_6]
  unfold jnd
  cases q0 : jnB K R C 0 s0 with
  | true => simp (disch := omega) only [i32_l, iN_l, i32_add, i32_mul, i32_r0, i32_r1, run_bi, run_bi', i32_sub, decide_eq_true_eq, bi_rt, bi_em, bi_0, bi_1, i32_lt, i32_eq, iN_ne, iN_lt, iN_nlt, i32_ix, i32_in,  mm_aft_v, mm_aft_n, mm_aft_x, if_pos, if_neg, ite_true, ite_false, if_true, if_false, not_false_eq_true, not_true_eq_false, sg_X11_joined_27]; rfl
  | false =>
    simp (disch := omega) only [i32_l, iN_l, i32_add, i32_mul, i32_r0, i32_r1, run_bi, run_bi', i32_sub, decide_eq_true_eq, bi_rt, bi_em, bi_0, bi_1, i32_lt, i32_eq, iN_ne, iN_lt, iN_nlt, i32_ix, i32_in,  mm_aft_v, mm_aft_n, mm_aft_x, if_pos, if_neg, ite_true, ite_false, if_true, if_false, not_false_eq_true, not_true_eq_false, Bool.false_eq_true]
    rw [sp_Mjoins k r e I J A B h (by decide), mm_aft_v, sg_X11_joined_19]
    cases q1 : jnB K R C 1 s1 with
    | true => simp (disch := omega) only [i32_l, iN_l, i32_add, i32_mul, i32_r0, i32_r1, run_bi, run_bi', i32_sub, decide_eq_true_eq, bi_rt, bi_em, bi_0, bi_1, i32_lt, i32_eq, iN_ne, iN_lt, iN_nlt, i32_ix, i32_in,  mm_aft_v, mm_aft_n, mm_aft_x, if_pos, if_neg, ite_true, ite_false, if_true, if_false, not_false_eq_true, not_true_eq_false, sg_X11_joined_27]; rfl
    | false => simp (disch := omega) only [i32_l, iN_l, i32_add, i32_mul, i32_r0, i32_r1, run_bi, run_bi', i32_sub, decide_eq_true_eq, bi_rt, bi_em, bi_0, bi_1, i32_lt, i32_eq, iN_ne, iN_lt, iN_nlt, i32_ix, i32_in,  mm_aft_v, mm_aft_n, mm_aft_x, if_pos, if_neg, ite_true, ite_false, if_true, if_false, not_false_eq_true, not_true_eq_false, Bool.false_eq_true, sg_X11_joined_27]; rfl
theorem sp_MjoinedNow {K R C : Nat} (h : MB K R C I A B) : f_X11_joinedNow [.ref 39] (k + 64, e, (mm_RM r), I, J, A, B) = some (.inl (some (.int (jnd K R C (B 45 0) (B 45 1)))), (k + 64, e, (mm_RM r), I, J, A, B)) := by
  rw [en_X11_joinedNow, sg_X11_joinedNow_0]
  simp (disch := omega) only [i32_l, iN_l, i32_add, i32_mul, i32_r0, i32_r1, run_bi, run_bi', i32_sub, decide_eq_true_eq, bi_rt, bi_em, bi_0, bi_1, i32_lt, i32_eq, iN_ne, iN_lt, iN_nlt, i32_ix, i32_in,  mm_aft_v, mm_aft_n, mm_aft_x, if_pos, if_neg, ite_true, ite_false, if_true, if_false, not_false_eq_true, not_true_eq_false]
  rw [sp_Mjoined k r e I J A B h, mm_aft_v, sg_X11_joinedNow_16]
theorem sp_Mwinner {K R C : Nat} (h : MB K R C I A B) : f_X11_winner [.ref 39] (k + 64, e, (mm_RM r), I, J, A, B) = some (.inl (some (.int (if I 39 13 = iN then jnd K R C (B 45 0) (B 45 1) else I 39 13))), (k + 64, e, (mm_RM r), I, J, A, B)) := by
  rw [en_X11_winner, sg_X11_winner_0]
  simp only [i32_l, iN_l]
  by_cases q : I 39 13 = iN
  · rw [if_pos q, if_pos q, sp_MjoinedNow k r e I J A B h, mm_aft_v, sg_X11_winner_19]
  · rw [if_neg q, if_neg q, sg_X11_winner_19]
theorem sp_Mempty {n : Nat} (h : I 39 3 = i32 n) : f_X11_emptyCells [.ref 39] (k + 64, e, (mm_RM r), I, J, A, B) = some (.inl (some (.long (((mbit n - 1) &&& (B 45 0 ^^^ (-1))) &&& (B 45 1 ^^^ (-1))))), (k + 64, e, (mm_RM r), I, J, A, B)) := by
  rw [en_X11_emptyCells, sg_X11_emptyCells_0, h, sp_Mbit, mm_aft_v, sg_X11_emptyCells_7]
  simp (disch := omega) only [i32_l, iN_l, i32_add, i32_mul, i32_r0, i32_r1, run_bi, run_bi', i32_sub, decide_eq_true_eq, bi_rt, bi_em, bi_0, bi_1, i32_lt, i32_eq, iN_ne, iN_lt, iN_nlt, i32_ix, i32_in,  mm_aft_v, mm_aft_n, mm_aft_x, if_pos, if_neg, ite_true, ite_false, if_true, if_false, not_false_eq_true, not_true_eq_false]
theorem sp_Mmirrored {K R C : Nat} (h : MB K R C I A B) {c : Nat} (hc : c < bN K R C) : f_X11_mirrored [.ref 39, .int (i32 c)] (k + 64, e, (mm_RM r), I, J, A, B) = some (.inl (some (.int (i32 (mirB K R C c)))), (k + 64, e, (mm_RM r), I, J, A, B)) := by
  have hk := bV_K h.v
  have hn := bN_le h.v
  rw [en_X11_mirrored, sg_X11_mirrored_0, h.kind, h.rows, h.cols]
  by_cases q1 : K = 0
  · by_cases q2 : R = C
    · simp (disch := omega) only [i32_l, iN_l, i32_add, i32_mul, i32_r0, i32_r1, run_bi, run_bi', i32_sub, decide_eq_true_eq, bi_rt, bi_em, bi_0, bi_1, i32_lt, i32_eq, iN_ne, iN_lt, iN_nlt, i32_ix, i32_in,  mm_aft_v, mm_aft_n, mm_aft_x, if_pos, if_neg, ite_true, ite_false, if_true, if_false, not_false_eq_true, not_true_eq_false, q1, q2, (h.rc c hc).1, (h.rc c hc).2, sg_X11_mirrored_40]
      unfold mirB
      rw [Nat.beq_refl, Nat.beq_refl]; rfl
    · have e1 : Nat.beq R C = false := by rw [nbeq_d]; exact decide_eq_false q2
      simp (disch := omega) only [i32_l, iN_l, i32_add, i32_mul, i32_r0, i32_r1, run_bi, run_bi', i32_sub, decide_eq_true_eq, bi_rt, bi_em, bi_0, bi_1, i32_lt, i32_eq, iN_ne, iN_lt, iN_nlt, i32_ix, i32_in,  mm_aft_v, mm_aft_n, mm_aft_x, if_pos, if_neg, ite_true, ite_false, if_true, if_false, not_false_eq_true, not_true_eq_false, q1, q2, sg_X11_mirrored_39, sg_X11_mirrored_40]
      unfold mirB
      rw [e1, Bool.and_false]; rfl
  · have e1 : Nat.beq K 0 = false := by rw [nbeq_d]; exact decide_eq_false q1
    simp (disch := omega) only [i32_l, iN_l, i32_add, i32_mul, i32_r0, i32_r1, run_bi, run_bi', i32_sub, decide_eq_true_eq, bi_rt, bi_em, bi_0, bi_1, i32_lt, i32_eq, iN_ne, iN_lt, iN_nlt, i32_ix, i32_in,  mm_aft_v, mm_aft_n, mm_aft_x, if_pos, if_neg, ite_true, ite_false, if_true, if_false, not_false_eq_true, not_true_eq_false, q1, sg_X11_mirrored_39, sg_X11_mirrored_40]
    unfold mirB
    rw [e1, Bool.false_and]; rfl
theorem sp_MsidesOf {K R C : Nat} (h : MB K R C I A B) (g : Int64) : f_X11_sidesOf [.ref 39, .long g] (k + 64, e, (mm_RM r), I, J, A, B) = some (.inl (some (.int (soF K R C g (bSd K)))), (k + 64, e, (mm_RM r), I, J, A, B)) := by
  have hs := bSd_le (K := K)
  have hk := bV_K h.v
  have L : ∀ (d s : Nat), s + d = bSd K → mm_run (mm_pr tb_X11_sidesOf) (5, [some (.ref 39), some (.long g), none, some (.int (soF K R C g s)), some (.int (i32 s))], [], (k + 64, e, (mm_RM r), I, J, A, B)) = some (.inl (some (.int (soF K R C g (bSd K)))), (k + 64, e, (mm_RM r), I, J, A, B)) := by
    intro d
    induction d with
    | zero =>
      intro s hd
      have : s = bSd K := by omega
      subst this
      rw [sg_X11_sidesOf_5, sp_Msides k r e I J A B hk.1 h.kind, mm_aft_v, sg_X11_sidesOf_11]
      simp (disch := omega) only [i32_l, iN_l, i32_add, i32_mul, i32_r0, i32_r1, run_bi, run_bi', i32_sub, decide_eq_true_eq, bi_rt, bi_em, bi_0, bi_1, i32_lt, i32_eq, iN_ne, iN_lt, iN_nlt, i32_ix, i32_in,  mm_aft_v, mm_aft_n, mm_aft_x, if_pos, if_neg, ite_true, ite_false, if_true, if_false, not_false_eq_true, not_true_eq_false]
    | succ d ih =>
      intro s hd
      rw [← ih (s + 1) (by omega), sg_X11_sidesOf_5, sp_Msides k r e I J A B hk.1 h.kind, mm_aft_v, sg_X11_sidesOf_11]
      simp (disch := omega) only [i32_l, iN_l, i32_add, i32_mul, i32_r0, i32_r1, run_bi, run_bi', i32_sub, decide_eq_true_eq, bi_rt, bi_em, bi_0, bi_1, i32_lt, i32_eq, iN_ne, iN_lt, iN_nlt, i32_ix, i32_in,  mm_aft_v, mm_aft_n, mm_aft_x, if_pos, if_neg, ite_true, ite_false, if_true, if_false, not_false_eq_true, not_true_eq_false]
      rw [h.sd s (by omega)]
      show _ = mm_run _ (5, [_, _, _, some (.int (soF K R C g s ||| (if g &&& bSs K R C s = 0 then i32 0 else i32 1 <<< (i32 s &&& i32 31)))), _], _, _)
      by_cases q : g &&& bSs K R C s = 0
      · rw [if_pos q, if_pos q, sg_X11_sidesOf_37]
        simp (disch := omega) only [i32_l, iN_l, i32_add, i32_mul, i32_r0, i32_r1, run_bi, run_bi', i32_sub, decide_eq_true_eq, bi_rt, bi_em, bi_0, bi_1, i32_lt, i32_eq, iN_ne, iN_lt, iN_nlt, i32_ix, i32_in,  mm_aft_v, mm_aft_n, mm_aft_x, if_pos, if_neg, ite_true, ite_false, if_true, if_false, not_false_eq_true, not_true_eq_false]
      · rw [if_neg q, if_neg q, sg_X11_sidesOf_37]
        simp (disch := omega) only [i32_l, iN_l, i32_add, i32_mul, i32_r0, i32_r1, run_bi, run_bi', i32_sub, decide_eq_true_eq, bi_rt, bi_em, bi_0, bi_1, i32_lt, i32_eq, iN_ne, iN_lt, iN_nlt, i32_ix, i32_in,  mm_aft_v, mm_aft_n, mm_aft_x, if_pos, if_neg, ite_true, ite_false, if_true, if_false, not_false_eq_true, not_true_eq_false]
  rw [en_X11_sidesOf, sg_X11_sidesOf_0]
  exact L (bSd K) 0 (by omega)
end
