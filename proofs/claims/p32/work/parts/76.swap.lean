/-! the swap, the numbers of moves, sides of a group; who has joined in the reference -/
def mirB (K R C c : Nat) : Nat := bif Nat.beq K 0 && Nat.beq R C then bCo K C c * C + bRo K C c else c
theorem b_mir : bAll (fun K R C => all2 (bN K R C) 1 (fun c _ => Nat.blt (mirB K R C c) (bN K R C) && Nat.beq (mirB K R C (mirB K R C c)) c && (!(Nat.beq K 0 && Nat.beq R C) || decide (atC (i32 R) (i32 K) (i32 C) (i32 (bCo K C c)) (i32 (bRo K C c)) = i32 (mirB K R C c))))) = true := by decide +kernel
theorem mirB_lt {K R C c : Nat} (v : bV K R C = true) (h : c < bN K R C) : mirB K R C c < bN K R C := by
  have := all2_of (bAll_of b_mir v) h (j := 0) (by decide)
  simp only [Bool.and_eq_true, Nat.blt_eq] at this
  exact this.1.1
theorem mirB_at {K R C c : Nat} (v : bV K R C = true) (h : c < bN K R C) (hk : K = 0) (hr : R = C) : atC (i32 R) (i32 K) (i32 C) (i32 (bCo K C c)) (i32 (bRo K C c)) = i32 (mirB K R C c) := by
  have := all2_of (bAll_of b_mir v) h (j := 0) (by decide)
  simp only [Bool.and_eq_true] at this
  have e : (Nat.beq K 0 && Nat.beq R C) = true := by rw [hk, hr, Nat.beq_refl, Nat.beq_refl]; rfl
  have t := this.2
  rw [e, Bool.not_true, Bool.false_or] at t
  exact of_decide_eq_true t
noncomputable def soF (K R C : Nat) (g : Int64) : Nat → Int32
  | 0 => i32 0
  | s + 1 => soF K R C g s ||| (if g &&& bSs K R C s = 0 then i32 0 else i32 1 <<< (i32 s &&& i32 31))
theorem bSd_le {K : Nat} : bSd K ≤ 4 := by
  unfold bSd
  cases Nat.beq K 0 <;> cases Nat.beq K 1 <;> decide
abbrev RLg (lg : Nat → Nat) (m : Nat) (sw : Bool) (I : Nat → Nat → Int32) (A : Nat → Nat → Int32) : Prop := I 39 10 = i32 m ∧ I 39 12 = bi sw ∧ m ≤ 37 ∧ (∀ i, i < m → A 46 i = i32 (lg i))
section
variable (k : Nat) (r : Nat → Nat → Value) (e : Nat) (I : Nat → Nat → Int32) (J : Nat → Nat → Int64) (A : Nat → Nat → Int32) (B : Nat → Nat → Int64)
theorem sp_exchanged {K R C : Nat} (h : CB K R C I J A B) {c : Nat} (hc : c < bN K R C) : f_X1_exchanged [.ref 1, .int (i32 c)] (k + 7, e, (mm_RB r), I, J, A, B) = some (.inl (some (.int (i32 (mirB K R C c)))), (k + 7, e, (mm_RB r), I, J, A, B)) := by
  have hk := bV_K h.v
  have hn := bN_le h.v
  rw [en_X1_exchanged, sg_X1_exchanged_0, h.kind, h.rows, h.cols]
  by_cases q1 : K = 0
  · by_cases q2 : R = C
    · simp (disch := omega) only [i32_l, iN_l, i32_add, i32_mul, i32_r0, i32_r1, run_bi, run_bi', i32_sub, decide_eq_true_eq, bi_rt, bi_em, bi_0, bi_1, i32_lt, i32_eq, iN_ne, iN_lt, iN_nlt, i32_ix, i32_in,  mm_aft_v, mm_aft_n, mm_aft_x, if_pos, if_neg, ite_true, ite_false, if_true, if_false, not_false_eq_true, not_true_eq_false, q1, q2]
      rw [sp_column k r e I J A B (by omega), mm_aft_v, sg_X1_exchanged_24, sp_row k r e I J A B (by omega), mm_aft_v, sg_X1_exchanged_29, sp_at, mm_aft_v, sg_X1_exchanged_32, sg_X1_exchanged_36, (h.rc c hc).1, (h.rc c hc).2, h.kind, h.rows, h.cols, mirB_at h.v hc q1 q2, q1, q2]
    · have e1 : Nat.beq R C = false := by rw [nbeq_d]; exact decide_eq_false q2
      simp (disch := omega) only [i32_l, iN_l, i32_add, i32_mul, i32_r0, i32_r1, run_bi, run_bi', i32_sub, decide_eq_true_eq, bi_rt, bi_em, bi_0, bi_1, i32_lt, i32_eq, iN_ne, iN_lt, iN_nlt, i32_ix, i32_in,  mm_aft_v, mm_aft_n, mm_aft_x, if_pos, if_neg, ite_true, ite_false, if_true, if_false, not_false_eq_true, not_true_eq_false, q1, q2, sg_X1_exchanged_35, sg_X1_exchanged_36]
      unfold mirB
      rw [e1, Bool.and_false]; rfl
  · have e1 : Nat.beq K 0 = false := by rw [nbeq_d]; exact decide_eq_false q1
    simp (disch := omega) only [i32_l, iN_l, i32_add, i32_mul, i32_r0, i32_r1, run_bi, run_bi', i32_sub, decide_eq_true_eq, bi_rt, bi_em, bi_0, bi_1, i32_lt, i32_eq, iN_ne, iN_lt, iN_nlt, i32_ix, i32_in,  mm_aft_v, mm_aft_n, mm_aft_x, if_pos, if_neg, ite_true, ite_false, if_true, if_false, not_false_eq_true, not_true_eq_false, q1, sg_X1_exchanged_35, sg_X1_exchanged_36]
    unfold mirB
    rw [e1, Bool.false_and]; rfl
theorem sp_sidesOf {K R C : Nat} (h : CB K R C I J A B) (g : Int64) : f_X1_sidesOf [.ref 1, .long g] (k + 7, e, (mm_RB r), I, J, A, B) = some (.inl (some (.int (soF K R C g (bSd K)))), (k + 7, e, (mm_RB r), I, J, A, B)) := by
  have hs := bSd_le (K := K)
  have L : ∀ (d s : Nat), s + d = bSd K → mm_run (mm_pr tb_X1_sidesOf) (5, [some (.ref 1), some (.long g), none, some (.int (soF K R C g s)), some (.int (i32 s))], [], (k + 7, e, (mm_RB r), I, J, A, B)) = some (.inl (some (.int (soF K R C g (bSd K)))), (k + 7, e, (mm_RB r), I, J, A, B)) := by
    intro d
    induction d with
    | zero =>
      intro s hd
      have : s = bSd K := by omega
      subst this
      rw [sg_X1_sidesOf_5, h.sides]
      simp (disch := omega) only [i32_l, iN_l, i32_add, i32_mul, i32_r0, i32_r1, run_bi, run_bi', i32_sub, decide_eq_true_eq, bi_rt, bi_em, bi_0, bi_1, i32_lt, i32_eq, iN_ne, iN_lt, iN_nlt, i32_ix, i32_in,  mm_aft_v, mm_aft_n, mm_aft_x, if_pos, if_neg, ite_true, ite_false, if_true, if_false, not_false_eq_true, not_true_eq_false]
    | succ d ih =>
      intro s hd
      rw [← ih (s + 1) (by omega), sg_X1_sidesOf_5, h.sides]
      simp (disch := omega) only [i32_l, iN_l, i32_add, i32_mul, i32_r0, i32_r1, run_bi, run_bi', i32_sub, decide_eq_true_eq, bi_rt, bi_em, bi_0, bi_1, i32_lt, i32_eq, iN_ne, iN_lt, iN_nlt, i32_ix, i32_in,  mm_aft_v, mm_aft_n, mm_aft_x, if_pos, if_neg, ite_true, ite_false, if_true, if_false, not_false_eq_true, not_true_eq_false]
      rw [sp_sideB k r e I J A B h (by omega), mm_aft_v, sg_X1_sidesOf_22]
      show _ = mm_run _ (5, [_, _, _, some (.int (soF K R C g s ||| (if g &&& bSs K R C s = 0 then i32 0 else i32 1 <<< (i32 s &&& i32 31)))), _], _, _)
      by_cases q : g &&& bSs K R C s = 0
      · rw [if_pos q, if_pos q, sg_X1_sidesOf_36]
        simp (disch := omega) only [i32_l, iN_l, i32_add, i32_mul, i32_r0, i32_r1, run_bi, run_bi', i32_sub, decide_eq_true_eq, bi_rt, bi_em, bi_0, bi_1, i32_lt, i32_eq, iN_ne, iN_lt, iN_nlt, i32_ix, i32_in,  mm_aft_v, mm_aft_n, mm_aft_x, if_pos, if_neg, ite_true, ite_false, if_true, if_false, not_false_eq_true, not_true_eq_false]
      · rw [if_neg q, if_neg q, sg_X1_sidesOf_36]
        simp (disch := omega) only [i32_l, iN_l, i32_add, i32_mul, i32_r0, i32_r1, run_bi, run_bi', i32_sub, decide_eq_true_eq, bi_rt, bi_em, bi_0, bi_1, i32_lt, i32_eq, iN_ne, iN_lt, iN_nlt, i32_ix, i32_in,  mm_aft_v, mm_aft_n, mm_aft_x, if_pos, if_neg, ite_true, ite_false, if_true, if_false, not_false_eq_true, not_true_eq_false]
  rw [en_X1_sidesOf, sg_X1_sidesOf_0]
  exact L (bSd K) 0 (by omega)
theorem sp_numberOf {lg : Nat → Nat} {m : Nat} {sw : Bool} (h : PL lg m sw I A) {c i : Nat} (hc : c < 36) (hlg : ∀ j, j < m → lg j < 36) (h1 : kf sw m ≤ i) (h2 : i < m) (h3 : lg i = c) (h4 : ∀ j, kf sw m ≤ j → j < i → lg j ≠ c) : f_X6_numberOf [.ref 7, .int (i32 c)] (k + 9, e, (mm_RP r), I, J, A, B) = some (.inl (some (.int (i32 i))), (k + 9, e, (mm_RP r), I, J, A, B)) := by
  obtain ⟨p1, p2, p3, p4⟩ := h
  have L : ∀ (d j : Nat), j + d = i → kf sw m ≤ j → mm_run (mm_pr tb_X6_numberOf) (9, [some (.ref 7), some (.int (i32 c)), some (.int (i32 j))], [], (k + 9, e, (mm_RP r), I, J, A, B)) = some (.inl (some (.int (i32 i))), (k + 9, e, (mm_RP r), I, J, A, B)) := by
    intro d
    induction d with
    | zero =>
      intro j hd hj
      have : j = i := by omega
      subst this
      rw [sg_X6_numberOf_9, p1]
      simp (disch := omega) only [i32_l, iN_l, i32_add, i32_mul, i32_r0, i32_r1, run_bi, run_bi', i32_sub, decide_eq_true_eq, bi_rt, bi_em, bi_0, bi_1, i32_lt, i32_eq, iN_ne, iN_lt, iN_nlt, i32_ix, i32_in,  mm_aft_v, mm_aft_n, mm_aft_x, if_pos, if_neg, ite_true, ite_false, if_true, if_false, not_false_eq_true, not_true_eq_false, p4 j (by omega), h3]
    | succ d ih =>
      intro j hd hj
      have l1 := hlg j (by omega)
      have n1 := h4 j hj (by omega)
      rw [sg_X6_numberOf_9, p1]
      simp (disch := omega) only [i32_l, iN_l, i32_add, i32_mul, i32_r0, i32_r1, run_bi, run_bi', i32_sub, decide_eq_true_eq, bi_rt, bi_em, bi_0, bi_1, i32_lt, i32_eq, iN_ne, iN_lt, iN_nlt, i32_ix, i32_in,  mm_aft_v, mm_aft_n, mm_aft_x, if_pos, if_neg, ite_true, ite_false, if_true, if_false, not_false_eq_true, not_true_eq_false, p4 j (by omega), n1]
      exact ih (j + 1) (by omega) (by omega)
  rw [en_X6_numberOf, sg_X6_numberOf_0, p1, sp_firstKept k r e I J A B p2 (by omega), mm_aft_v, sg_X6_numberOf_8]
  exact L (i - kf sw m) (kf sw m) (by omega) (Nat.le_refl _)
end
