/-! the swap in the class; numbers and groups in the reference -/
section
variable (k : Nat) (r : Nat → Nat → Value) (e : Nat) (I : Nat → Nat → Int32) (J : Nat → Nat → Int64) (A : Nat → Nat → Int32) (B : Nat → Nat → Int64)
theorem sp_exchangedP {K R C : Nat} (h : CB K R C I J A B) {c : Nat} (hc : c < bN K R C) : f_X1_exchanged [.ref 1, .int (i32 c)] (k + 9, e, (mm_RP r), I, J, A, B) = some (.inl (some (.int (i32 (mirB K R C c)))), (k + 9, e, (mm_RP r), I, J, A, B)) := by
  have q := sp_exchanged (k + 2) (mm_RP r) e I J A B h hc
  rw [mm_RB_P] at q
  exact q
theorem sp_exchange {K R C : Nat} {lg : Nat → Nat} {sw : Bool} (hb : CB K R C I J A B) (h : PL lg 1 sw I A) (hc : lg 0 < bN K R C) : f_X6_exchange [.ref 7] (k + 9, e, (mm_RP r), I, J, A, B) = some (.inl (some (.int (i32 (mirB K R C (lg 0))))), (k + 9, e, (mm_RP r), mm_up (mm_up (mm_up I 7 3 (i32 1)) 7 2 (i32 2)) 7 6 (jnd K R C (stN (lgp lg 1 (mirB K R C (lg 0))) 1 0 2) (stN (lgp lg 1 (mirB K R C (lg 0))) 1 1 2)), mm_up (mm_up J 7 4 (stN (lgp lg 1 (mirB K R C (lg 0))) 1 0 2)) 7 5 (stN (lgp lg 1 (mirB K R C (lg 0))) 1 1 2), mm_up A 8 1 (i32 (mirB K R C (lg 0))), B)) := by
  obtain ⟨p1, p2, p3, p4⟩ := h
  have hb2 : CB K R C (mm_up I 7 3 (i32 1)) J A B := hb.fr (by rw [mm_up_row _ _ _ _ _ (by decide)]) rfl rfl rfl rfl rfl rfl
  have hp : PL lg 1 true (mm_up I 7 3 (i32 1)) A := ⟨by rw [mm_up_ne2 _ _ _ _ _ _ (by decide)]; exact p1, by rw [mm_up_eq]; rfl, by decide, p4⟩
  rw [en_X6_exchange, sg_X6_exchange_0]
  simp (disch := omega) only [i32_l, iN_l, i32_add, i32_mul, i32_r0, i32_r1, run_bi, run_bi', i32_sub, decide_eq_true_eq, bi_rt, bi_em, bi_0, bi_1, i32_lt, i32_eq, iN_ne, iN_lt, iN_nlt, i32_ix, i32_in,  mm_aft_v, mm_aft_n, mm_aft_x, if_pos, if_neg, ite_true, ite_false, if_true, if_false, not_false_eq_true, not_true_eq_false]
  rw [p4 0 (by decide), sp_exchangedP k r e I J A B hb hc, mm_aft_v, sg_X6_exchange_13]
  simp only [i32_l]
  rw [sp_put k r e _ J A B hb2 hp (by decide), mm_aft_n, sg_X6_exchange_24]
  rfl
theorem sp_MmoveOf {lg : Nat → Nat} {m : Nat} {sw : Bool} (h : RLg lg m sw I A) {c i : Nat} (hc : c < 36) (hlg : ∀ j, j < m → lg j < 36) (h1 : (bif sw then 1 else 0) ≤ i) (h2 : i < m) (h3 : lg i = c) (h4 : ∀ j, i < j → j < m → lg j ≠ c) : f_X11_moveOf [.ref 39, .int (i32 c)] (k + 64, e, (mm_RM r), I, J, A, B) = some (.inl (some (.int (i32 i))), (k + 64, e, (mm_RM r), I, J, A, B)) := by
  obtain ⟨p1, p2, p3, p4⟩ := h
  -- behind i nothing more is found
  have L2 : ∀ (d j : Nat), j + d = m → i < j → mm_run (mm_pr tb_X11_moveOf) (15, [some (.ref 39), some (.int (i32 c)), some (.int (i32 i)), some (.int (i32 j))], [], (k + 64, e, (mm_RM r), I, J, A, B)) = some (.inl (some (.int (i32 i))), (k + 64, e, (mm_RM r), I, J, A, B)) := by
    intro d
    induction d with
    | zero =>
      intro j hd hj
      rw [sg_X11_moveOf_15, p1]
      simp (disch := omega) only [i32_l, iN_l, i32_add, i32_mul, i32_r0, i32_r1, run_bi, run_bi', i32_sub, decide_eq_true_eq, bi_rt, bi_em, bi_0, bi_1, i32_lt, i32_eq, iN_ne, iN_lt, iN_nlt, i32_ix, i32_in,  mm_aft_v, mm_aft_n, mm_aft_x, if_pos, if_neg, ite_true, ite_false, if_true, if_false, not_false_eq_true, not_true_eq_false]
    | succ d ih =>
      intro j hd hj
      have l1 := hlg j (by omega)
      have n1 := h4 j hj (by omega)
      rw [sg_X11_moveOf_15, p1]
      simp (disch := omega) only [i32_l, iN_l, i32_add, i32_mul, i32_r0, i32_r1, run_bi, run_bi', i32_sub, decide_eq_true_eq, bi_rt, bi_em, bi_0, bi_1, i32_lt, i32_eq, iN_ne, iN_lt, iN_nlt, i32_ix, i32_in,  mm_aft_v, mm_aft_n, mm_aft_x, if_pos, if_neg, ite_true, ite_false, if_true, if_false, not_false_eq_true, not_true_eq_false, p4 j (by omega), n1, sg_X11_moveOf_38]
      exact ih (j + 1) (by omega) (by omega)
  have L1 : ∀ (d j : Nat) (x : Int32), j + d = i → mm_run (mm_pr tb_X11_moveOf) (15, [some (.ref 39), some (.int (i32 c)), some (.int x), some (.int (i32 j))], [], (k + 64, e, (mm_RM r), I, J, A, B)) = some (.inl (some (.int (i32 i))), (k + 64, e, (mm_RM r), I, J, A, B)) := by
    intro d
    induction d with
    | zero =>
      intro j x hd
      have : j = i := by omega
      subst this
      rw [sg_X11_moveOf_15, p1]
      simp (disch := omega) only [i32_l, iN_l, i32_add, i32_mul, i32_r0, i32_r1, run_bi, run_bi', i32_sub, decide_eq_true_eq, bi_rt, bi_em, bi_0, bi_1, i32_lt, i32_eq, iN_ne, iN_lt, iN_nlt, i32_ix, i32_in,  mm_aft_v, mm_aft_n, mm_aft_x, if_pos, if_neg, ite_true, ite_false, if_true, if_false, not_false_eq_true, not_true_eq_false, p4 j (by omega), h3, sg_X11_moveOf_38]
      exact L2 (m - (j + 1)) (j + 1) (by omega) (by omega)
    | succ d ih =>
      intro j x hd
      have l1 := hlg j (by omega)
      rw [sg_X11_moveOf_15, p1]
      by_cases q : lg j = c
      · simp (disch := omega) only [i32_l, iN_l, i32_add, i32_mul, i32_r0, i32_r1, run_bi, run_bi', i32_sub, decide_eq_true_eq, bi_rt, bi_em, bi_0, bi_1, i32_lt, i32_eq, iN_ne, iN_lt, iN_nlt, i32_ix, i32_in,  mm_aft_v, mm_aft_n, mm_aft_x, if_pos, if_neg, ite_true, ite_false, if_true, if_false, not_false_eq_true, not_true_eq_false, p4 j (by omega), q, sg_X11_moveOf_38]
        exact ih (j + 1) _ (by omega)
      · simp (disch := omega) only [i32_l, iN_l, i32_add, i32_mul, i32_r0, i32_r1, run_bi, run_bi', i32_sub, decide_eq_true_eq, bi_rt, bi_em, bi_0, bi_1, i32_lt, i32_eq, iN_ne, iN_lt, iN_nlt, i32_ix, i32_in,  mm_aft_v, mm_aft_n, mm_aft_x, if_pos, if_neg, ite_true, ite_false, if_true, if_false, not_false_eq_true, not_true_eq_false, p4 j (by omega), q, sg_X11_moveOf_38]
        exact ih (j + 1) _ (by omega)
  rw [en_X11_moveOf, sg_X11_moveOf_0, p2]
  cases sw with
  | false =>
    simp (disch := omega) only [i32_l, iN_l, i32_add, i32_mul, i32_r0, i32_r1, run_bi, run_bi', i32_sub, decide_eq_true_eq, bi_rt, bi_em, bi_0, bi_1, i32_lt, i32_eq, iN_ne, iN_lt, iN_nlt, i32_ix, i32_in,  mm_aft_v, mm_aft_n, mm_aft_x, if_pos, if_neg, ite_true, ite_false, if_true, if_false, not_false_eq_true, not_true_eq_false, sg_X11_moveOf_14, Bool.false_eq_true]
    exact L1 i 0 _ (by omega)
  | true =>
    have h1' : 1 ≤ i := h1
    simp (disch := omega) only [i32_l, iN_l, i32_add, i32_mul, i32_r0, i32_r1, run_bi, run_bi', i32_sub, decide_eq_true_eq, bi_rt, bi_em, bi_0, bi_1, i32_lt, i32_eq, iN_ne, iN_lt, iN_nlt, i32_ix, i32_in,  mm_aft_v, mm_aft_n, mm_aft_x, if_pos, if_neg, ite_true, ite_false, if_true, if_false, not_false_eq_true, not_true_eq_false, sg_X11_moveOf_14]
    exact L1 (i - 1) 1 _ (by omega)
theorem sp_MgroupOf {K R C : Nat} (h : MB K R C I A B) {c : Nat} (hc : c < bN K R C) : f_X11_groupOf [.ref 39, .int (i32 c)] (k + 64, e, (mm_RM r), I, J, A, B) = some (.inl (some (.long (rcB K R C (mbit c) (if mb (B 45 0) c = true then B 45 0 else B 45 1)))), (k + 64, e, (mm_RM r), I, J, A, B)) := by
  have hn := bN_le h.v
  have cl : ∀ w c', mb (mbit c) c' = true → mb w c' = true → c' < bN K R C := by
    intro w c' q _
    rw [mb_bit _ _ (by omega), decide_eq_true_eq] at q
    omega
  rw [en_X11_groupOf, sg_X11_groupOf_0]
  simp (disch := omega) only [i32_l, iN_l, i32_add, i32_mul, i32_r0, i32_r1, run_bi, run_bi', i32_sub, decide_eq_true_eq, bi_rt, bi_em, bi_0, bi_1, i32_lt, i32_eq, iN_ne, iN_lt, iN_nlt, i32_ix, i32_in,  mm_aft_v, mm_aft_n, mm_aft_x, if_pos, if_neg, ite_true, ite_false, if_true, if_false, not_false_eq_true, not_true_eq_false]
  rw [sp_Mhas _ _ (by omega), mm_aft_v, sg_X11_groupOf_10]
  by_cases q : mb (B 45 0) c = true
  · simp (disch := omega) only [i32_l, iN_l, i32_add, i32_mul, i32_r0, i32_r1, run_bi, run_bi', i32_sub, decide_eq_true_eq, bi_rt, bi_em, bi_0, bi_1, i32_lt, i32_eq, iN_ne, iN_lt, iN_nlt, i32_ix, i32_in,  mm_aft_v, mm_aft_n, mm_aft_x, if_pos, if_neg, ite_true, ite_false, if_true, if_false, not_false_eq_true, not_true_eq_false, q, sg_X11_groupOf_28]
    rw [sp_Mbit, mm_aft_v, sg_X11_groupOf_34, sp_spreadsB k r e I J A B h _ _ (cl _), mm_aft_v, sg_X11_groupOf_38]
  · simp (disch := omega) only [i32_l, iN_l, i32_add, i32_mul, i32_r0, i32_r1, run_bi, run_bi', i32_sub, decide_eq_true_eq, bi_rt, bi_em, bi_0, bi_1, i32_lt, i32_eq, iN_ne, iN_lt, iN_nlt, i32_ix, i32_in,  mm_aft_v, mm_aft_n, mm_aft_x, if_pos, if_neg, ite_true, ite_false, if_true, if_false, not_false_eq_true, not_true_eq_false, q, sg_X11_groupOf_28, Bool.false_eq_true]
    rw [sp_Mbit, mm_aft_v, sg_X11_groupOf_34, sp_spreadsB k r e I J A B h _ _ (cl _), mm_aft_v, sg_X11_groupOf_38]
end
