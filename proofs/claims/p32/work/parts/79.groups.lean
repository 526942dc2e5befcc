/-! the swap in the class; numbers and groups in the reference -/
section
variable (k : Nat) (r : Nat → Nat → Value) (e : Nat) (I : Nat → Nat → Int32) (J : Nat → Nat → Int64) (A : Nat → Nat → Int32) (B : Nat → Nat → Int64)
theorem sp_exchangedP {K R C : Nat} (h : CB K R C I J A B) {c : Nat} (hc : c < bN K R C) : f_X1_exchanged [.ref 1, .int (i32 c)] (k + 9, e, (mm_RP r), I, J, A, B) = some (.inl (some (.int (i32 (mirB K R C c)))), (k + 9, e, (mm_RP r), I, J, A, B)) := by
  have q := sp_exchanged (k + 2) (mm_RP r) e I J A B h hc
  rw [mm_RB_P] at q
  exact q
theorem sp_exchange {K R C : Nat} {lg : Nat → Nat} {sw : Bool} (hb : CB K R C I J A B) (h : PL lg 1 sw I A) (hc : lg 0 < bN K R C) : f_X6_exchange [.ref 7] (k + 9, e, (mm_RP r), I, J, A, B) = some (.inl (some (.int (i32 (mirB K R C (lg 0))))), (k + 9, e, (mm_RP r), mm_up (mm_up (mm_up I 7 3 (i32 1)) 7 2 (i32 2)) 7 6 (jnd K R C (stN (lgp lg 1 (mirB K R C (lg 0))) 1 0 2) (stN (lgp lg 1 (mirB K R C (lg 0))) 1 1 2)), mm_up (mm_up J 7 4 (stN (lgp lg 1 (mirB K R C (lg 0))) 1 0 2)) 7 5 (stN (lgp lg 1 (mirB K R C (lg 0))) 1 1 2), mm_up A 8 1 (i32 (mirB K R C (lg 0))), B)) := by
  obtain ⟨p1, p2, p3, p4⟩ := h
  have hb2 : CB K R C (mm_up I 7 3 (i32 1)) J A B := hb.fr (by rw [mm_up_row _ _ _ _ _ (by decide)]) rfl rfl rfl rfl rfl rfl
  have hp : PL lg 1 true (mm_up I 7 3 (i32 1)) A := ⟨by rw [mm_up_ne2 _ _ _ _ _ _ (by decide)]; exact p1, by rw [mm_up_eq]; rfl, by decide, p4⟩
  rw [en_X6_exchange, sg_X6_exchange_0]
  simp (disch := omega) only [i32_l, iN_l, i32_add, i32_mul, i32_r0, i32_r1, run_bi, run_bi', i32_sub, decide_eq_true_eq, bi_rt, bi_em, bi_0, bi_1, i32_lt, i32_eq, iN_ne, iN_lt, iN_nlt, i32_ix, i32_in,  mm_aft_v, mm_aft_n, mm_aft_x, if_pos, if_neg, ite_true, ite_false, if_true, if_false, not_false_eq_true, not_true_eq_false]
  rw [p4 0 (by decide), sp_exchangedP k r e I J A B hb hc, mm_aft_v, sg_X6_exchange_13]
  simp only [i32_l]
  rw [sp_put k r e _ J A B hb2 hp (by decide), mm_aft_n, sg_X6_exchange_24]
  rfl
end
