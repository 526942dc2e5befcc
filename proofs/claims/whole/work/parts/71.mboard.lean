/-! the reference's board -/
abbrev MB (K R C : Nat) (I : Nat → Nat → Int32) (A : Nat → Nat → Int32) (B : Nat → Nat → Int64) : Prop := (bV K R C = true) ∧ (I 39 0 = i32 K) ∧ (I 39 1 = i32 R) ∧ (I 39 2 = i32 C) ∧ (I 39 3 = i32 (bN K R C)) ∧ (∀ c, c < bN K R C → A 40 c = i32 (bRo K C c) ∧ A 41 c = i32 (bCo K C c)) ∧ (∀ c d, c < bN K R C → d < 6 → A 42 (6 * c + d) = bNx K R C c d) ∧ (∀ c, c < bN K R C → B 43 c = bNb K R C c) ∧ (∀ s, s < 4 → B 44 s = bSs K R C s)
theorem MB.v {K R C : Nat} {I : Nat → Nat → Int32} {A : Nat → Nat → Int32} {B : Nat → Nat → Int64} (h : MB K R C I A B) : bV K R C = true := h.1
theorem MB.kind {K R C : Nat} {I : Nat → Nat → Int32} {A : Nat → Nat → Int32} {B : Nat → Nat → Int64} (h : MB K R C I A B) : I 39 0 = i32 K := h.2.1
theorem MB.rows {K R C : Nat} {I : Nat → Nat → Int32} {A : Nat → Nat → Int32} {B : Nat → Nat → Int64} (h : MB K R C I A B) : I 39 1 = i32 R := h.2.2.1
theorem MB.cols {K R C : Nat} {I : Nat → Nat → Int32} {A : Nat → Nat → Int32} {B : Nat → Nat → Int64} (h : MB K R C I A B) : I 39 2 = i32 C := h.2.2.2.1
theorem MB.cells {K R C : Nat} {I : Nat → Nat → Int32} {A : Nat → Nat → Int32} {B : Nat → Nat → Int64} (h : MB K R C I A B) : I 39 3 = i32 (bN K R C) := h.2.2.2.2.1
theorem MB.rc {K R C : Nat} {I : Nat → Nat → Int32} {A : Nat → Nat → Int32} {B : Nat → Nat → Int64} (h : MB K R C I A B) : ∀ c, c < bN K R C → A 40 c = i32 (bRo K C c) ∧ A 41 c = i32 (bCo K C c) := h.2.2.2.2.2.1
theorem MB.nx {K R C : Nat} {I : Nat → Nat → Int32} {A : Nat → Nat → Int32} {B : Nat → Nat → Int64} (h : MB K R C I A B) : ∀ c d, c < bN K R C → d < 6 → A 42 (6 * c + d) = bNx K R C c d := h.2.2.2.2.2.2.1
theorem MB.nb {K R C : Nat} {I : Nat → Nat → Int32} {A : Nat → Nat → Int32} {B : Nat → Nat → Int64} (h : MB K R C I A B) : ∀ c, c < bN K R C → B 43 c = bNb K R C c := h.2.2.2.2.2.2.2.1
theorem MB.sd {K R C : Nat} {I : Nat → Nat → Int32} {A : Nat → Nat → Int32} {B : Nat → Nat → Int64} (h : MB K R C I A B) : ∀ s, s < 4 → B 44 s = bSs K R C s := h.2.2.2.2.2.2.2.2
def inB (x lo hi : Int32) : Bool := !decide (x < lo) && !decide (hi < x)
def atM (R K C x1 x2 : Int32) : Int32 :=
  if ¬ inB x1 (i32 0) (R - i32 1) = true then iN
  else if K = i32 1 then (if ¬ inB x2 (i32 0) x1 = true then iN else x1 * (x1 + i32 1) / i32 2 + x2)
  else if K = i32 2 then (if ¬ inB ((x2 + C) - (x2 + C) / C * C) (i32 0) (C - i32 1) = true then iN else x1 * C + ((x2 + C) - (x2 + C) / C * C))
  else (if ¬ inB x2 (i32 0) (C - i32 1) = true then iN else x1 * C + x2)
def nxM (K R C c d : Nat) : Int32 :=
  match d with
  | 0 => atM (i32 R) (i32 K) (i32 C) (i32 (bRo K C c)) (i32 (bCo K C c) + i32 1)
  | 1 => atM (i32 R) (i32 K) (i32 C) (i32 (bRo K C c) + i32 1) (if K = 1 then i32 (bCo K C c) + i32 1 else i32 (bCo K C c))
  | 2 => atM (i32 R) (i32 K) (i32 C) (i32 (bRo K C c) + i32 1) (if K = 1 then i32 (bCo K C c) else i32 (bCo K C c) - i32 1)
  | 3 => atM (i32 R) (i32 K) (i32 C) (i32 (bRo K C c)) (i32 (bCo K C c) - i32 1)
  | 4 => atM (i32 R) (i32 K) (i32 C) (i32 (bRo K C c) - i32 1) (if K = 1 then i32 (bCo K C c) - i32 1 else i32 (bCo K C c))
  | _ => atM (i32 R) (i32 K) (i32 C) (i32 (bRo K C c) - i32 1) (if K = 1 then i32 (bCo K C c) else i32 (bCo K C c) + i32 1)
theorem b_nm : bAll (fun K R C => all2 (bN K R C) 6 (fun c d => decide (nxM K R C c d = bNx K R C c d))) = true := by decide +kernel
theorem b_nms {K R C c d : Nat} (v : bV K R C = true) (h : c < bN K R C) (hd : d < 6) : nxM K R C c d = bNx K R C c d :=
  of_decide_eq_true (all2_of (bAll_of b_nm v) h hd)
theorem nsw : ∀ d : Fin 6, (if (i32 d.1).toInt < 0 ∨ 4 < (i32 d.1).toInt then 130 else ([52, 61, 81, 101, 110] : List Nat).getD ((i32 d.1).toInt - 0).toNat 130) = ([52, 61, 81, 101, 110, 130] : List Nat).getD d.1 130 := by decide
section
variable (k : Nat) (r : Nat → Nat → Value) (e : Nat) (I : Nat → Nat → Int32) (J : Nat → Nat → Int64) (A : Nat → Nat → Int32) (B : Nat → Nat → Int64)
theorem sp_Mat (hC : I 39 2 ≠ i32 0) (x1 x2 : Int32) : f_X11_at [.ref 39, .int x1, .int x2] (k + 64, e, (mm_RM r), I, J, A, B) = some (.inl (some (.int (atM (I 39 1) (I 39 0) (I 39 2) x1 x2))), (k + 64, e, (mm_RM r), I, J, A, B)) := by
  rw [en_X11_at, sg_X11_at_0, sp_Min, mm_aft_v, sg_X11_at_11]
  unfold atM
  simp only [i32_l, iN_l, bi_0]
  by_cases h1 : inB x1 (i32 0) (I 39 1 - i32 1) = true
  · have h1' := h1
    unfold inB at h1'
    rw [if_neg (not_not_intro h1'), if_neg (not_not_intro h1)]
    by_cases h2 : I 39 0 = i32 1
    · rw [if_pos h2, if_pos h2, sp_Min, mm_aft_v, sg_X11_at_30]
      simp only [i32_l, iN_l, bi_0, sg_X11_at_46, ret_ite]
      rfl
    · rw [if_neg h2, if_neg h2]
      by_cases h3 : I 39 0 = i32 2
      · rw [if_pos h3, if_pos h3, if_neg hC, sg_X11_at_70, sp_Min, mm_aft_v, sg_X11_at_82]
        simp only [i32_l, iN_l, bi_0, sg_X11_at_97, ret_ite]
        rfl
      · rw [if_neg h3, if_neg h3, sg_X11_at_70, sp_Min, mm_aft_v, sg_X11_at_82]
        simp only [i32_l, iN_l, bi_0, sg_X11_at_97, ret_ite]
        rfl
  · have h1' := h1
    unfold inB at h1'
    rw [if_pos h1', if_pos h1]
theorem sp_Mneigh {K R C : Nat} (v : bV K R C = true) (h0 : I 39 0 = i32 K) (h1 : I 39 1 = i32 R) (h2 : I 39 2 = i32 C) {c d : Nat} (hc : c < bN K R C) (hd : d < 6) : f_X11_neighbourOf [.ref 39, .int (i32 (bRo K C c)), .int (i32 (bCo K C c)), .int (i32 d)] (k + 64, e, (mm_RM r), I, J, A, B) = some (.inl (some (.int (bNx K R C c d))), (k + 64, e, (mm_RM r), I, J, A, B)) := by
  have hk := bV_K v
  have hC : I 39 2 ≠ i32 0 := by rw [h2]; intro q; rw [i32_eq (by omega) (by decide)] at q; omega
  rw [en_X11_neighbourOf, sg_X11_neighbourOf_0, h0]
  simp (disch := omega) only [i32_l, iN_l, i32_add, i32_mul, i32_r0, i32_r1, run_bi, run_bi', i32_sub, decide_eq_true_eq, bi_rt, bi_em, bi_0, bi_1, i32_lt, i32_eq, iN_ne, iN_lt, iN_nlt, i32_ix, i32_in,  mm_aft_v, mm_aft_n, mm_aft_x, if_pos, if_neg, ite_true, ite_false, if_true, if_false, not_false_eq_true, not_true_eq_false]
  rw [sg_X11_neighbourOf_13, nsw ⟨d, hd⟩, ← b_nms v hc hd]
  have hD : d = 0 ∨ d = 1 ∨ d = 2 ∨ d = 3 ∨ d = 4 ∨ d = 5 := by omega
  rcases hD with q | q | q | q | q | q
  · subst q
    show mm_run _ (52, _, _, _) = _
    rw [sg_X11_neighbourOf_52, sp_Mat k r e I J A B hC, mm_aft_v, sg_X11_neighbourOf_60, h0, h1, h2]; rfl
  · subst q
    show mm_run _ (61, _, _, _) = _
    rw [sg_X11_neighbourOf_61]
    simp (disch := omega) only [i32_l, iN_l, i32_add, i32_mul, i32_r0, i32_r1, run_bi, run_bi', i32_sub, decide_eq_true_eq, bi_rt, bi_em, bi_0, bi_1, i32_lt, i32_eq, iN_ne, iN_lt, iN_nlt, i32_ix, i32_in,  mm_aft_v, mm_aft_n, mm_aft_x, if_pos, if_neg, ite_true, ite_false, if_true, if_false, not_false_eq_true, not_true_eq_false, sg_X11_neighbourOf_77]
    by_cases q : K = 1
    · simp (disch := omega) only [i32_l, iN_l, i32_add, i32_mul, i32_r0, i32_r1, run_bi, run_bi', i32_sub, decide_eq_true_eq, bi_rt, bi_em, bi_0, bi_1, i32_lt, i32_eq, iN_ne, iN_lt, iN_nlt, i32_ix, i32_in,  mm_aft_v, mm_aft_n, mm_aft_x, if_pos, if_neg, ite_true, ite_false, if_true, if_false, not_false_eq_true, not_true_eq_false, q]
      rw [sp_Mat k r e I J A B hC, mm_aft_v, sg_X11_neighbourOf_80, h0, h1, h2]
      unfold nxM; simp (disch := omega) only [i32_l, iN_l, i32_add, i32_mul, i32_r0, i32_r1, run_bi, run_bi', i32_sub, decide_eq_true_eq, bi_rt, bi_em, bi_0, bi_1, i32_lt, i32_eq, iN_ne, iN_lt, iN_nlt, i32_ix, i32_in,  mm_aft_v, mm_aft_n, mm_aft_x, if_pos, if_neg, ite_true, ite_false, if_true, if_false, not_false_eq_true, not_true_eq_false, q]
    · simp (disch := omega) only [i32_l, iN_l, i32_add, i32_mul, i32_r0, i32_r1, run_bi, run_bi', i32_sub, decide_eq_true_eq, bi_rt, bi_em, bi_0, bi_1, i32_lt, i32_eq, iN_ne, iN_lt, iN_nlt, i32_ix, i32_in,  mm_aft_v, mm_aft_n, mm_aft_x, if_pos, if_neg, ite_true, ite_false, if_true, if_false, not_false_eq_true, not_true_eq_false, q]
      rw [sp_Mat k r e I J A B hC, mm_aft_v, sg_X11_neighbourOf_80, h0, h1, h2]
      unfold nxM; simp (disch := omega) only [i32_l, iN_l, i32_add, i32_mul, i32_r0, i32_r1, run_bi, run_bi', i32_sub, decide_eq_true_eq, bi_rt, bi_em, bi_0, bi_1, i32_lt, i32_eq, iN_ne, iN_lt, iN_nlt, i32_ix, i32_in,  mm_aft_v, mm_aft_n, mm_aft_x, if_pos, if_neg, ite_true, ite_false, if_true, if_false, not_false_eq_true, not_true_eq_false, q]
  · subst q
    show mm_run _ (81, _, _, _) = _
    rw [sg_X11_neighbourOf_81]
    simp (disch := omega) only [i32_l, iN_l, i32_add, i32_mul, i32_r0, i32_r1, run_bi, run_bi', i32_sub, decide_eq_true_eq, bi_rt, bi_em, bi_0, bi_1, i32_lt, i32_eq, iN_ne, iN_lt, iN_nlt, i32_ix, i32_in,  mm_aft_v, mm_aft_n, mm_aft_x, if_pos, if_neg, ite_true, ite_false, if_true, if_false, not_false_eq_true, not_true_eq_false, sg_X11_neighbourOf_97]
    by_cases q : K = 1
    · simp (disch := omega) only [i32_l, iN_l, i32_add, i32_mul, i32_r0, i32_r1, run_bi, run_bi', i32_sub, decide_eq_true_eq, bi_rt, bi_em, bi_0, bi_1, i32_lt, i32_eq, iN_ne, iN_lt, iN_nlt, i32_ix, i32_in,  mm_aft_v, mm_aft_n, mm_aft_x, if_pos, if_neg, ite_true, ite_false, if_true, if_false, not_false_eq_true, not_true_eq_false, q]
      rw [sp_Mat k r e I J A B hC, mm_aft_v, sg_X11_neighbourOf_100, h0, h1, h2]
      unfold nxM; simp (disch := omega) only [i32_l, iN_l, i32_add, i32_mul, i32_r0, i32_r1, run_bi, run_bi', i32_sub, decide_eq_true_eq, bi_rt, bi_em, bi_0, bi_1, i32_lt, i32_eq, iN_ne, iN_lt, iN_nlt, i32_ix, i32_in,  mm_aft_v, mm_aft_n, mm_aft_x, if_pos, if_neg, ite_true, ite_false, if_true, if_false, not_false_eq_true, not_true_eq_false, q]
    · simp (disch := omega) only [i32_l, iN_l, i32_add, i32_mul, i32_r0, i32_r1, run_bi, run_bi', i32_sub, decide_eq_true_eq, bi_rt, bi_em, bi_0, bi_1, i32_lt, i32_eq, iN_ne, iN_lt, iN_nlt, i32_ix, i32_in,  mm_aft_v, mm_aft_n, mm_aft_x, if_pos, if_neg, ite_true, ite_false, if_true, if_false, not_false_eq_true, not_true_eq_false, q]
      rw [sp_Mat k r e I J A B hC, mm_aft_v, sg_X11_neighbourOf_100, h0, h1, h2]
      unfold nxM; simp (disch := omega) only [i32_l, iN_l, i32_add, i32_mul, i32_r0, i32_r1, run_bi, run_bi', i32_sub, decide_eq_true_eq, bi_rt, bi_em, bi_0, bi_1, i32_lt, i32_eq, iN_ne, iN_lt, iN_nlt, i32_ix, i32_in,  mm_aft_v, mm_aft_n, mm_aft_x, if_pos, if_neg, ite_true, ite_false, if_true, if_false, not_false_eq_true, not_true_eq_false, q]
  · subst q
    show mm_run _ (101, _, _, _) = _
    rw [sg_X11_neighbourOf_101, sp_Mat k r e I J A B hC, mm_aft_v, sg_X11_neighbourOf_109, h0, h1, h2]; rfl
  · subst q
    show mm_run _ (110, _, _, _) = _
    rw [sg_X11_neighbourOf_110]
    simp (disch := omega) only [i32_l, iN_l, i32_add, i32_mul, i32_r0, i32_r1, run_bi, run_bi', i32_sub, decide_eq_true_eq, bi_rt, bi_em, bi_0, bi_1, i32_lt, i32_eq, iN_ne, iN_lt, iN_nlt, i32_ix, i32_in,  mm_aft_v, mm_aft_n, mm_aft_x, if_pos, if_neg, ite_true, ite_false, if_true, if_false, not_false_eq_true, not_true_eq_false, sg_X11_neighbourOf_126]
    by_cases q : K = 1
    · simp (disch := omega) only [i32_l, iN_l, i32_add, i32_mul, i32_r0, i32_r1, run_bi, run_bi', i32_sub, decide_eq_true_eq, bi_rt, bi_em, bi_0, bi_1, i32_lt, i32_eq, iN_ne, iN_lt, iN_nlt, i32_ix, i32_in,  mm_aft_v, mm_aft_n, mm_aft_x, if_pos, if_neg, ite_true, ite_false, if_true, if_false, not_false_eq_true, not_true_eq_false, q]
      rw [sp_Mat k r e I J A B hC, mm_aft_v, sg_X11_neighbourOf_129, h0, h1, h2]
      unfold nxM; simp (disch := omega) only [i32_l, iN_l, i32_add, i32_mul, i32_r0, i32_r1, run_bi, run_bi', i32_sub, decide_eq_true_eq, bi_rt, bi_em, bi_0, bi_1, i32_lt, i32_eq, iN_ne, iN_lt, iN_nlt, i32_ix, i32_in,  mm_aft_v, mm_aft_n, mm_aft_x, if_pos, if_neg, ite_true, ite_false, if_true, if_false, not_false_eq_true, not_true_eq_false, q]
    · simp (disch := omega) only [i32_l, iN_l, i32_add, i32_mul, i32_r0, i32_r1, run_bi, run_bi', i32_sub, decide_eq_true_eq, bi_rt, bi_em, bi_0, bi_1, i32_lt, i32_eq, iN_ne, iN_lt, iN_nlt, i32_ix, i32_in,  mm_aft_v, mm_aft_n, mm_aft_x, if_pos, if_neg, ite_true, ite_false, if_true, if_false, not_false_eq_true, not_true_eq_false, q]
      rw [sp_Mat k r e I J A B hC, mm_aft_v, sg_X11_neighbourOf_129, h0, h1, h2]
      unfold nxM; simp (disch := omega) only [i32_l, iN_l, i32_add, i32_mul, i32_r0, i32_r1, run_bi, run_bi', i32_sub, decide_eq_true_eq, bi_rt, bi_em, bi_0, bi_1, i32_lt, i32_eq, iN_ne, iN_lt, iN_nlt, i32_ix, i32_in,  mm_aft_v, mm_aft_n, mm_aft_x, if_pos, if_neg, ite_true, ite_false, if_true, if_false, not_false_eq_true, not_true_eq_false, q]
  · subst q
    show mm_run _ (130, _, _, _) = _
    rw [sg_X11_neighbourOf_130]
    simp (disch := omega) only [i32_l, iN_l, i32_add, i32_mul, i32_r0, i32_r1, run_bi, run_bi', i32_sub, decide_eq_true_eq, bi_rt, bi_em, bi_0, bi_1, i32_lt, i32_eq, iN_ne, iN_lt, iN_nlt, i32_ix, i32_in,  mm_aft_v, mm_aft_n, mm_aft_x, if_pos, if_neg, ite_true, ite_false, if_true, if_false, not_false_eq_true, not_true_eq_false, sg_X11_neighbourOf_146]
    by_cases q : K = 1
    · simp (disch := omega) only [i32_l, iN_l, i32_add, i32_mul, i32_r0, i32_r1, run_bi, run_bi', i32_sub, decide_eq_true_eq, bi_rt, bi_em, bi_0, bi_1, i32_lt, i32_eq, iN_ne, iN_lt, iN_nlt, i32_ix, i32_in,  mm_aft_v, mm_aft_n, mm_aft_x, if_pos, if_neg, ite_true, ite_false, if_true, if_false, not_false_eq_true, not_true_eq_false, q]
      rw [sp_Mat k r e I J A B hC, mm_aft_v, sg_X11_neighbourOf_149, h0, h1, h2]
      unfold nxM; simp (disch := omega) only [i32_l, iN_l, i32_add, i32_mul, i32_r0, i32_r1, run_bi, run_bi', i32_sub, decide_eq_true_eq, bi_rt, bi_em, bi_0, bi_1, i32_lt, i32_eq, iN_ne, iN_lt, iN_nlt, i32_ix, i32_in,  mm_aft_v, mm_aft_n, mm_aft_x, if_pos, if_neg, ite_true, ite_false, if_true, if_false, not_false_eq_true, not_true_eq_false, q]
    · simp (disch := omega) only [i32_l, iN_l, i32_add, i32_mul, i32_r0, i32_r1, run_bi, run_bi', i32_sub, decide_eq_true_eq, bi_rt, bi_em, bi_0, bi_1, i32_lt, i32_eq, iN_ne, iN_lt, iN_nlt, i32_ix, i32_in,  mm_aft_v, mm_aft_n, mm_aft_x, if_pos, if_neg, ite_true, ite_false, if_true, if_false, not_false_eq_true, not_true_eq_false, q]
      rw [sp_Mat k r e I J A B hC, mm_aft_v, sg_X11_neighbourOf_149, h0, h1, h2]
      unfold nxM; simp (disch := omega) only [i32_l, iN_l, i32_add, i32_mul, i32_r0, i32_r1, run_bi, run_bi', i32_sub, decide_eq_true_eq, bi_rt, bi_em, bi_0, bi_1, i32_lt, i32_eq, iN_ne, iN_lt, iN_nlt, i32_ix, i32_in,  mm_aft_v, mm_aft_n, mm_aft_x, if_pos, if_neg, ite_true, ite_false, if_true, if_false, not_false_eq_true, not_true_eq_false, q]
theorem sp_Msides {K : Nat} (hK : K < 3) (h0 : I 39 0 = i32 K) : f_X11_sides [.ref 39] (k + 64, e, (mm_RM r), I, J, A, B) = some (.inl (some (.int (i32 (bSd K)))), (k + 64, e, (mm_RM r), I, J, A, B)) := by
  rw [en_X11_sides, sg_X11_sides_0, h0]
  have : K = 0 ∨ K = 1 ∨ K = 2 := by omega
  rcases this with q | q | q <;> (subst q; simp (disch := omega) only [i32_l, iN_l, i32_add, i32_mul, i32_r0, i32_r1, run_bi, run_bi', i32_sub, decide_eq_true_eq, bi_rt, bi_em, bi_0, bi_1, i32_lt, i32_eq, iN_ne, iN_lt, iN_nlt, i32_ix, i32_in,  mm_aft_v, mm_aft_n, mm_aft_x, if_pos, if_neg, ite_true, ite_false, if_true, if_false, not_false_eq_true, not_true_eq_false, sg_X11_sides_24]; rfl)
theorem sp_MisAt {K R C : Nat} (v : bV K R C = true) (h0 : I 39 0 = i32 K) (h1 : I 39 1 = i32 R) (h2 : I 39 2 = i32 C) (hA : ∀ c, c < bN K R C → A 40 c = i32 (bRo K C c) ∧ A 41 c = i32 (bCo K C c)) {c s : Nat} (hc : c < bN K R C) (hs : s < 4) : f_X11_isAtSide [.ref 39, .int (i32 c), .int (i32 s)] (k + 64, e, (mm_RM r), I, J, A, B) = some (.inl (some (.int (bi (bAt K R C c s)))), (k + 64, e, (mm_RM r), I, J, A, B)) := by
  have hk := bV_K v
  have hn := bN_le v
  have rc := b_rc_lt v hc
  have a2 := (hA c hc).1
  have a3 := (hA c hc).2
  rw [en_X11_isAtSide, sg_X11_isAtSide_0, h0]
  unfold bAt
  have hK : K = 0 ∨ K = 1 ∨ K = 2 := by omega
  have hS : s = 0 ∨ s = 1 ∨ s = 2 ∨ s = 3 := by omega
  rcases hK with q | q | q
  · subst q
    rcases hS with q | q | q | q
    all_goals (
      subst q
      simp (disch := omega) only [i32_l, iN_l, i32_add, i32_mul, i32_r0, i32_r1, run_bi, run_bi', i32_sub, decide_eq_true_eq, bi_rt, bi_em, bi_0, bi_1, i32_lt, i32_eq, iN_ne, iN_lt, iN_nlt, i32_ix, i32_in,  mm_aft_v, mm_aft_n, mm_aft_x, if_pos, if_neg, ite_true, ite_false, if_true, if_false, not_false_eq_true, not_true_eq_false, a2, a3, h1, h2]
      rw [sg_X11_isAtSide_180]
      simp (disch := omega) only [i32_l, iN_l, i32_add, i32_mul, i32_r0, i32_r1, run_bi, run_bi', i32_sub, decide_eq_true_eq, bi_rt, bi_em, bi_0, bi_1, i32_lt, i32_eq, iN_ne, iN_lt, iN_nlt, i32_ix, i32_in,  mm_aft_v, mm_aft_n, mm_aft_x, if_pos, if_neg, ite_true, ite_false, if_true, if_false, not_false_eq_true, not_true_eq_false]
      simp only [nbeq_d]; rfl)
  · subst q
    rcases hS with q | q | q | q
    all_goals (
      subst q
      simp (disch := omega) only [i32_l, iN_l, i32_add, i32_mul, i32_r0, i32_r1, run_bi, run_bi', i32_sub, decide_eq_true_eq, bi_rt, bi_em, bi_0, bi_1, i32_lt, i32_eq, iN_ne, iN_lt, iN_nlt, i32_ix, i32_in,  mm_aft_v, mm_aft_n, mm_aft_x, if_pos, if_neg, ite_true, ite_false, if_true, if_false, not_false_eq_true, not_true_eq_false, a2, a3, h1, h2]
      rw [sg_X11_isAtSide_106]
      simp (disch := omega) only [i32_l, iN_l, i32_add, i32_mul, i32_r0, i32_r1, run_bi, run_bi', i32_sub, decide_eq_true_eq, bi_rt, bi_em, bi_0, bi_1, i32_lt, i32_eq, iN_ne, iN_lt, iN_nlt, i32_ix, i32_in,  mm_aft_v, mm_aft_n, mm_aft_x, if_pos, if_neg, ite_true, ite_false, if_true, if_false, not_false_eq_true, not_true_eq_false]
      simp only [nbeq_d]; rfl)
  · subst q
    rcases hS with q | q | q | q
    all_goals (
      subst q
      simp (disch := omega) only [i32_l, iN_l, i32_add, i32_mul, i32_r0, i32_r1, run_bi, run_bi', i32_sub, decide_eq_true_eq, bi_rt, bi_em, bi_0, bi_1, i32_lt, i32_eq, iN_ne, iN_lt, iN_nlt, i32_ix, i32_in,  mm_aft_v, mm_aft_n, mm_aft_x, if_pos, if_neg, ite_true, ite_false, if_true, if_false, not_false_eq_true, not_true_eq_false, a2, a3, h1, h2]
      rw [sg_X11_isAtSide_38]
      simp (disch := omega) only [i32_l, iN_l, i32_add, i32_mul, i32_r0, i32_r1, run_bi, run_bi', i32_sub, decide_eq_true_eq, bi_rt, bi_em, bi_0, bi_1, i32_lt, i32_eq, iN_ne, iN_lt, iN_nlt, i32_ix, i32_in,  mm_aft_v, mm_aft_n, mm_aft_x, if_pos, if_neg, ite_true, ite_false, if_true, if_false, not_false_eq_true, not_true_eq_false]
      rw [sg_X11_isAtSide_46]
      simp (disch := omega) only [i32_l, iN_l, i32_add, i32_mul, i32_r0, i32_r1, run_bi, run_bi', i32_sub, decide_eq_true_eq, bi_rt, bi_em, bi_0, bi_1, i32_lt, i32_eq, iN_ne, iN_lt, iN_nlt, i32_ix, i32_in,  mm_aft_v, mm_aft_n, mm_aft_x, if_pos, if_neg, ite_true, ite_false, if_true, if_false, not_false_eq_true, not_true_eq_false]
      simp only [nbeq_d]; rfl)
end
