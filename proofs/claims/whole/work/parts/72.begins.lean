/-! the reference begins -/
theorem mm_up_up {α : Type} (f : Nat → Nat → α) (k p : Nat) (a b : α) : mm_up (mm_up f k p a) k p b = mm_up f k p b := by
  funext i j
  unfold mm_up
  by_cases h : i = k
  · rw [if_pos h, if_pos h]
    by_cases h2 : j = p
    · rw [if_pos h2, if_pos h, if_pos h2]
    · rw [if_neg h2, if_pos h, if_neg h2, if_neg h2]
  · rw [if_neg h, if_neg h, if_neg h]
section
variable (k : Nat) (r : Nat → Nat → Value) (e : Nat) (J : Nat → Nat → Int64)
theorem sp_Mnum_i (B : Nat → Nat → Int64) (I : Nat → Nat → Int32) {K R C : Nat} (v : bV K R C = true) (row : Nat) (hr : row < R) (d : Nat) : ∀ (col : Nat) (A : Nat → Nat → Int32), col + d = bW K C row → (∀ c, c < bS K C row + col → A 40 c = i32 (bRo K C c) ∧ A 41 c = i32 (bCo K C c)) → ∃ A', mm_run (mm_pr tb_X11_begins) (32, [some (.ref 39), some (.int (i32 K)), some (.int (i32 R)), some (.int (i32 C)), some (.int (i32 row)), some (.int (i32 col)), none], [], (k + 64, e, (mm_RM r), mm_up I 39 3 (i32 (bS K C row + col)), J, A, B)) = mm_run (mm_pr tb_X11_begins) (23, [some (.ref 39), some (.int (i32 K)), some (.int (i32 R)), some (.int (i32 C)), some (.int (i32 (row + 1))), some (.int (i32 (bW K C row))), none], [], (k + 64, e, (mm_RM r), mm_up I 39 3 (i32 (bS K C (row + 1))), J, A', B)) ∧ (∀ c, c < bS K C (row + 1) → A' 40 c = i32 (bRo K C c) ∧ A' 41 c = i32 (bCo K C c)) ∧ (∀ i, i ≠ 40 → i ≠ 41 → A' i = A i) := by
  have hs := bS_s v hr
  have hw := bW_le v hr
  have hk := bV_K v
  have st : ∀ (col : Nat) (A : Nat → Nat → Int32), mm_run (mm_pr tb_X11_begins) (32, [some (.ref 39), some (.int (i32 K)), some (.int (i32 R)), some (.int (i32 C)), some (.int (i32 row)), some (.int (i32 col)), none], [], (k + 64, e, (mm_RM r), mm_up I 39 3 (i32 (bS K C row + col)), J, A, B)) = mm_run (mm_pr tb_X11_begins) (47, [some (.ref 39), some (.int (i32 K)), some (.int (i32 R)), some (.int (i32 C)), some (.int (i32 row)), some (.int (i32 col)), none], [.int (i32 (bW K C row)), .int (i32 col)], (k + 64, e, (mm_RM r), mm_up I 39 3 (i32 (bS K C row + col)), J, A, B)) := by
    intro col A
    rw [sg_X11_begins_32]
    simp (disch := omega) only [i32_l, iN_l, i32_add, i32_mul, i32_r0, i32_r1, run_bi, run_bi', i32_sub, decide_eq_true_eq, bi_rt, bi_em, bi_0, bi_1, i32_lt, i32_eq, iN_ne, iN_lt, iN_nlt, i32_ix, i32_in,  mm_aft_v, mm_aft_n, mm_aft_x, if_pos, if_neg, ite_true, ite_false, if_true, if_false, not_false_eq_true, not_true_eq_false]
    cases q : Nat.beq K 1 with
    | true => rw [if_pos (Nat.eq_of_beq_eq_true q), show bW K C row = row + 1 by unfold bW; rw [q]; rfl]
    | false => rw [if_neg (by intro q2; rw [q2] at q; cases q), show bW K C row = C by unfold bW; rw [q]; rfl]
  induction d with
  | zero =>
    intro col A h hA
    have : col = bW K C row := by omega
    subst this
    refine ⟨A, ?_, ?_, fun _ _ _ => rfl⟩
    · rw [st, sg_X11_begins_47]
      simp (disch := omega) only [i32_l, iN_l, i32_add, i32_mul, i32_r0, i32_r1, run_bi, run_bi', i32_sub, decide_eq_true_eq, bi_rt, bi_em, bi_0, bi_1, i32_lt, i32_eq, iN_ne, iN_lt, iN_nlt, i32_ix, i32_in,  mm_aft_v, mm_aft_n, mm_aft_x, if_pos, if_neg, ite_true, ite_false, if_true, if_false, not_false_eq_true, not_true_eq_false]
      rw [hs.1]
    · rw [hs.1]; exact hA
  | succ d ih =>
    intro col A h hA
    have hrc := b_rcs v hr (c := col) (by omega)
    obtain ⟨A', h1, h2, h3⟩ := ih (col + 1) (mm_up (mm_up A 40 (bS K C row + col) (i32 row)) 41 (bS K C row + col) (i32 col)) (by omega) (by
      intro c hc
      by_cases q : c = bS K C row + col
      · rw [q, mm_up_ne1 _ _ _ _ _ _ (by decide), mm_up_eq, mm_up_eq, hrc.1, hrc.2]; exact ⟨rfl, rfl⟩
      · rw [mm_up_ne1 _ _ _ _ _ _ (by decide), mm_up_ne2 _ _ _ _ _ _ q, mm_up_ne2 _ _ _ _ _ _ q, mm_up_ne1 _ _ _ _ _ _ (by decide)]
        exact hA c (by omega))
    refine ⟨A', ?_, h2, ?_⟩
    · rw [st, sg_X11_begins_47, mm_up_eq, mm_up_up]
      simp (disch := omega) only [i32_l, iN_l, i32_add, i32_mul, i32_r0, i32_r1, run_bi, run_bi', i32_sub, decide_eq_true_eq, bi_rt, bi_em, bi_0, bi_1, i32_lt, i32_eq, iN_ne, iN_lt, iN_nlt, i32_ix, i32_in,  mm_aft_v, mm_aft_n, mm_aft_x, if_pos, if_neg, ite_true, ite_false, if_true, if_false, not_false_eq_true, not_true_eq_false]
      rw [Nat.add_assoc]
      exact h1
    · intro i q1 q2
      rw [h3 i q1 q2]
      funext j
      rw [mm_up_ne1 _ _ _ _ _ _ q2, mm_up_ne1 _ _ _ _ _ _ q1]
theorem sp_Mnum (B : Nat → Nat → Int64) (I : Nat → Nat → Int32) {K R C : Nat} (v : bV K R C = true) (A : Nat → Nat → Int32) : ∃ A' o5, mm_run (mm_pr tb_X11_begins) (23, [some (.ref 39), some (.int (i32 K)), some (.int (i32 R)), some (.int (i32 C)), some (.int (i32 0)), none, none], [], (k + 64, e, (mm_RM r), mm_up I 39 3 (i32 0), J, A, B)) = mm_run (mm_pr tb_X11_begins) (97, [some (.ref 39), some (.int (i32 K)), some (.int (i32 R)), some (.int (i32 C)), some (.int (i32 0)), o5, none], [], (k + 64, e, (mm_RM r), mm_up I 39 3 (i32 (bN K R C)), J, A', B)) ∧ (∀ c, c < bN K R C → A' 40 c = i32 (bRo K C c) ∧ A' 41 c = i32 (bCo K C c)) ∧ (∀ i, i ≠ 40 → i ≠ 41 → A' i = A i) := by
  have hk := bV_K v
  have L : ∀ (d row : Nat) (A : Nat → Nat → Int32) (o5 : Option Value), row + d = R → (∀ c, c < bS K C row → A 40 c = i32 (bRo K C c) ∧ A 41 c = i32 (bCo K C c)) → ∃ A' o5', mm_run (mm_pr tb_X11_begins) (23, [some (.ref 39), some (.int (i32 K)), some (.int (i32 R)), some (.int (i32 C)), some (.int (i32 row)), o5, none], [], (k + 64, e, (mm_RM r), mm_up I 39 3 (i32 (bS K C row)), J, A, B)) = mm_run (mm_pr tb_X11_begins) (97, [some (.ref 39), some (.int (i32 K)), some (.int (i32 R)), some (.int (i32 C)), some (.int (i32 0)), o5', none], [], (k + 64, e, (mm_RM r), mm_up I 39 3 (i32 (bN K R C)), J, A', B)) ∧ (∀ c, c < bN K R C → A' 40 c = i32 (bRo K C c) ∧ A' 41 c = i32 (bCo K C c)) ∧ (∀ i, i ≠ 40 → i ≠ 41 → A' i = A i) := by
    intro d
    induction d with
    | zero =>
      intro row A o5 h hA
      have : row = R := by omega
      subst this
      refine ⟨A, o5, ?_, ?_, fun _ _ _ => rfl⟩
      · rw [sg_X11_begins_23]
        simp (disch := omega) only [i32_l, iN_l, i32_add, i32_mul, i32_r0, i32_r1, run_bi, run_bi', i32_sub, decide_eq_true_eq, bi_rt, bi_em, bi_0, bi_1, i32_lt, i32_eq, iN_ne, iN_lt, iN_nlt, i32_ix, i32_in,  mm_aft_v, mm_aft_n, mm_aft_x, if_pos, if_neg, ite_true, ite_false, if_true, if_false, not_false_eq_true, not_true_eq_false]
        rw [bS_R v]
      · rw [← bS_R v]; exact hA
    | succ d ih =>
      intro row A o5 h hA
      obtain ⟨A1, g1, g2, g3⟩ := sp_Mnum_i k r e J B I v row (by omega) (bW K C row) 0 A (by omega) hA
      obtain ⟨A', o5', f1, f2, f3⟩ := ih (row + 1) A1 _ (by omega) g2
      refine ⟨A', o5', ?_, f2, fun i q1 q2 => by rw [f3 i q1 q2, g3 i q1 q2]⟩
      rw [sg_X11_begins_23]
      simp (disch := omega) only [i32_l, iN_l, i32_add, i32_mul, i32_r0, i32_r1, run_bi, run_bi', i32_sub, decide_eq_true_eq, bi_rt, bi_em, bi_0, bi_1, i32_lt, i32_eq, iN_ne, iN_lt, iN_nlt, i32_ix, i32_in,  mm_aft_v, mm_aft_n, mm_aft_x, if_pos, if_neg, ite_true, ite_false, if_true, if_false, not_false_eq_true, not_true_eq_false]
      rw [← f1, ← g1]
      rfl
  have := L R 0 A none (by omega) (by intro c hc; rw [bS_0] at hc; omega)
  rw [bS_0] at this
  exact this
theorem sp_Mmeet_i (I : Nat → Nat → Int32) {K R C : Nat} (v : bV K R C = true) (h0 : I 39 0 = i32 K) (h1 : I 39 1 = i32 R) (h2 : I 39 2 = i32 C) (c : Nat) (hc : c < bN K R C) (x1 x2 x3 : Int32) (m : Nat) : ∀ (d : Nat) (A : Nat → Nat → Int32) (B : Nat → Nat → Int64) (o6 : Option Value), d + m = 6 → (∀ c, c < bN K R C → A 40 c = i32 (bRo K C c) ∧ A 41 c = i32 (bCo K C c)) → (∀ c' d', d' < 6 → 6 * c' + d' < 6 * c + d → A 42 (6 * c' + d') = bNx K R C c' d') → B 43 c = bAr K R C c d → ∃ A' B' o6', mm_run (mm_pr tb_X11_begins) (117, [some (.ref 39), some (.int x1), some (.int x2), some (.int x3), some (.int (i32 c)), some (.int (i32 d)), o6], [], (k + 64, e, (mm_RM r), I, J, A, B)) = mm_run (mm_pr tb_X11_begins) (97, [some (.ref 39), some (.int x1), some (.int x2), some (.int x3), some (.int (i32 (c + 1))), some (.int (i32 6)), o6'], [], (k + 64, e, (mm_RM r), I, J, A', B')) ∧ (∀ c' d', d' < 6 → 6 * c' + d' < 6 * c + 6 → A' 42 (6 * c' + d') = bNx K R C c' d') ∧ B' 43 c = bNb K R C c ∧ (∀ j, j ≠ c → B' 43 j = B 43 j) ∧ (∀ i, i ≠ 42 → A' i = A i) ∧ (∀ i, i ≠ 43 → B' i = B i) := by
  have hk := bV_K v
  have hn := bN_le v
  induction m with
  | zero =>
    intro d A B o6 hd hA hX hB
    have : d = 6 := by omega
    subst this
    refine ⟨A, B, o6, ?_, hX, by rw [hB, b_ars v hc], fun _ _ => rfl, fun _ _ => rfl, fun _ _ => rfl⟩
    rw [sg_X11_begins_117]
    simp (disch := omega) only [i32_l, iN_l, i32_add, i32_mul, i32_r0, i32_r1, run_bi, run_bi', i32_sub, decide_eq_true_eq, bi_rt, bi_em, bi_0, bi_1, i32_lt, i32_eq, iN_ne, iN_lt, iN_nlt, i32_ix, i32_in,  mm_aft_v, mm_aft_n, mm_aft_x, if_pos, if_neg, ite_true, ite_false, if_true, if_false, not_false_eq_true, not_true_eq_false]
  | succ m ih =>
    intro d A B o6 hd hA hX hB
    have a2 := (hA c hc).1
    have a3 := (hA c hc).2
    obtain ⟨A', B', p6, g1, g2, g3, g4, g5, g6⟩ := ih (d + 1) (mm_up A 42 (6 * c + d) (bNx K R C c d)) (mm_up B 43 c (bAr K R C c (d + 1))) (some (.int (bNx K R C c d))) (by omega) (by
      intro c hc
      rw [mm_up_ne1 _ _ _ _ _ _ (by decide), mm_up_ne1 _ _ _ _ _ _ (by decide)]
      exact hA c hc) (by
      intro c' d' q1 q2
      by_cases q : 6 * c' + d' = 6 * c + d
      · have e1 : c' = c := by omega
        have e2 : d' = d := by omega
        subst e1; subst e2; rw [mm_up_eq]
      · rw [mm_up_ne2 _ _ _ _ _ _ q]
        exact hX c' d' q1 (by omega)) (by rw [mm_up_eq])
    refine ⟨A', B', p6, ?_, g2, g3, ?_, ?_, ?_⟩
    · rw [← g1, sg_X11_begins_117]
      simp (disch := omega) only [i32_l, iN_l, i32_add, i32_mul, i32_r0, i32_r1, run_bi, run_bi', i32_sub, decide_eq_true_eq, bi_rt, bi_em, bi_0, bi_1, i32_lt, i32_eq, iN_ne, iN_lt, iN_nlt, i32_ix, i32_in,  mm_aft_v, mm_aft_n, mm_aft_x, if_pos, if_neg, ite_true, ite_false, if_true, if_false, not_false_eq_true, not_true_eq_false, a2, a3]
      rw [sp_Mneigh k r e I J A B v h0 h1 h2 hc (by omega), mm_aft_v, sg_X11_begins_144]
      simp only [i32_l, iN_l, i32_mul, i32_add]
      simp (disch := omega) only [i32_ix, i32_in, if_pos]
      rcases b_nxc v hc (show d < 6 by omega) with q | ⟨w, q, qw⟩
      · rw [if_pos q, sg_X11_begins_184]
        simp (disch := omega) only [i32_l, iN_l, i32_add, i32_mul, i32_r0, i32_r1, run_bi, run_bi', i32_sub, decide_eq_true_eq, bi_rt, bi_em, bi_0, bi_1, i32_lt, i32_eq, iN_ne, iN_lt, iN_nlt, i32_ix, i32_in,  mm_aft_v, mm_aft_n, mm_aft_x, if_pos, if_neg, ite_true, ite_false, if_true, if_false, not_false_eq_true, not_true_eq_false]
        rw [hB, show bAr K R C c (d + 1) = bAr K R C c d ||| 0 by show _ ||| (if _ then _ else _) = _; rw [if_pos q]]
      · have qn : ¬ bNx K R C c d = iN := by rw [q, iN_ne (by omega)]; exact not_false
        rw [if_neg qn, q, sp_Mbit, mm_aft_v, sg_X11_begins_184]
        simp (disch := omega) only [i32_l, iN_l, i32_add, i32_mul, i32_r0, i32_r1, run_bi, run_bi', i32_sub, decide_eq_true_eq, bi_rt, bi_em, bi_0, bi_1, i32_lt, i32_eq, iN_ne, iN_lt, iN_nlt, i32_ix, i32_in,  mm_aft_v, mm_aft_n, mm_aft_x, if_pos, if_neg, ite_true, ite_false, if_true, if_false, not_false_eq_true, not_true_eq_false]
        rw [hB, show bAr K R C c (d + 1) = bAr K R C c d ||| mbit w by show _ ||| (if _ then _ else _) = _; rw [if_neg qn, q, i32_ix (by omega)]]
    · intro j q
      rw [g4 j q, mm_up_ne2 _ _ _ _ _ _ q]
    · intro i q
      rw [g5 i q]
      funext j
      rw [mm_up_ne1 _ _ _ _ _ _ q]
    · intro i q
      rw [g6 i q]
      funext j
      rw [mm_up_ne1 _ _ _ _ _ _ q]
theorem sp_Mmeet (I : Nat → Nat → Int32) {K R C : Nat} (v : bV K R C = true) (h0 : I 39 0 = i32 K) (h1 : I 39 1 = i32 R) (h2 : I 39 2 = i32 C) (h3 : I 39 3 = i32 (bN K R C)) (x1 x2 x3 : Int32) (A : Nat → Nat → Int32) (B : Nat → Nat → Int64) (o5 : Option Value) (hA : ∀ c, c < bN K R C → A 40 c = i32 (bRo K C c) ∧ A 41 c = i32 (bCo K C c)) : ∃ A' B' o5' o6', mm_run (mm_pr tb_X11_begins) (97, [some (.ref 39), some (.int x1), some (.int x2), some (.int x3), some (.int (i32 0)), o5, none], [], (k + 64, e, (mm_RM r), I, J, A, B)) = mm_run (mm_pr tb_X11_begins) (201, [some (.ref 39), some (.int x1), some (.int x2), some (.int x3), some (.int (i32 0)), o5', o6'], [], (k + 64, e, (mm_RM r), I, J, A', B')) ∧ (∀ c d, c < bN K R C → d < 6 → A' 42 (6 * c + d) = bNx K R C c d) ∧ (∀ c, c < bN K R C → B' 43 c = bNb K R C c) ∧ (∀ i, i ≠ 42 → A' i = A i) ∧ (∀ i, i ≠ 43 → B' i = B i) := by
  have hk := bV_K v
  have hn := bN_le v
  have L : ∀ (m c : Nat) (A : Nat → Nat → Int32) (B : Nat → Nat → Int64) (o5 o6 : Option Value), c + m = bN K R C → (∀ c, c < bN K R C → A 40 c = i32 (bRo K C c) ∧ A 41 c = i32 (bCo K C c)) → (∀ c' d', d' < 6 → 6 * c' + d' < 6 * c → A 42 (6 * c' + d') = bNx K R C c' d') → (∀ c', c' < c → B 43 c' = bNb K R C c') → ∃ A' B' o5' o6', mm_run (mm_pr tb_X11_begins) (97, [some (.ref 39), some (.int x1), some (.int x2), some (.int x3), some (.int (i32 c)), o5, o6], [], (k + 64, e, (mm_RM r), I, J, A, B)) = mm_run (mm_pr tb_X11_begins) (201, [some (.ref 39), some (.int x1), some (.int x2), some (.int x3), some (.int (i32 0)), o5', o6'], [], (k + 64, e, (mm_RM r), I, J, A', B')) ∧ (∀ c' d', d' < 6 → 6 * c' + d' < 6 * bN K R C → A' 42 (6 * c' + d') = bNx K R C c' d') ∧ (∀ c, c < bN K R C → B' 43 c = bNb K R C c) ∧ (∀ i, i ≠ 42 → A' i = A i) ∧ (∀ i, i ≠ 43 → B' i = B i) := by
    intro m
    induction m with
    | zero =>
      intro c A B o5 o6 h hA hX hB
      have : c = bN K R C := by omega
      subst this
      refine ⟨A, B, o5, o6, ?_, hX, hB, fun _ _ => rfl, fun _ _ => rfl⟩
      rw [sg_X11_begins_97, h3]
      simp (disch := omega) only [i32_l, iN_l, i32_add, i32_mul, i32_r0, i32_r1, run_bi, run_bi', i32_sub, decide_eq_true_eq, bi_rt, bi_em, bi_0, bi_1, i32_lt, i32_eq, iN_ne, iN_lt, iN_nlt, i32_ix, i32_in,  mm_aft_v, mm_aft_n, mm_aft_x, if_pos, if_neg, ite_true, ite_false, if_true, if_false, not_false_eq_true, not_true_eq_false]
    | succ m ih =>
      intro c A B o5 o6 h hA hX hB
      obtain ⟨A1, B1, p6, g1, g2, g3, g4, g5, g6⟩ := sp_Mmeet_i k r e J I v h0 h1 h2 c (by omega) x1 x2 x3 6 0 A (mm_up B 43 c 0) o6 (by omega) hA hX (by rw [mm_up_eq]; rfl)
      obtain ⟨A', B', q5, q6, f1, f2, f3, f4, f5⟩ := ih (c + 1) A1 B1 (some (.int (i32 6))) p6 (by omega) (by
        intro c hc
        rw [g5 40 (by decide), g5 41 (by decide)]; exact hA c hc) (fun c' d' q1 q2 => g2 c' d' q1 (by omega)) (by
        intro c' hc'
        by_cases q : c' = c
        · subst q; exact g3
        · rw [g4 c' q, mm_up_ne2 _ _ _ _ _ _ q]; exact hB c' (by omega))
      refine ⟨A', B', q5, q6, ?_, f2, f3, fun i q => by rw [f4 i q, g5 i q], fun i q => by rw [f5 i q, g6 i q]; funext j; rw [mm_up_ne1 _ _ _ _ _ _ q]⟩
      rw [sg_X11_begins_97, h3]
      simp (disch := omega) only [i32_l, iN_l, i32_add, i32_mul, i32_r0, i32_r1, run_bi, run_bi', i32_sub, decide_eq_true_eq, bi_rt, bi_em, bi_0, bi_1, i32_lt, i32_eq, iN_ne, iN_lt, iN_nlt, i32_ix, i32_in,  mm_aft_v, mm_aft_n, mm_aft_x, if_pos, if_neg, ite_true, ite_false, if_true, if_false, not_false_eq_true, not_true_eq_false]
      rw [← f1, ← g1]
  obtain ⟨A', B', q5, q6, f1, f2, f3, f4, f5⟩ := L (bN K R C) 0 A B o5 none (by omega) hA (fun c' d' _ q => by omega) (fun c' q => by omega)
  exact ⟨A', B', q5, q6, f1, fun c d hc hd => f2 c d hd (by omega), f3, f4, f5⟩
theorem sp_Mside_i (I : Nat → Nat → Int32) {K R C : Nat} (v : bV K R C = true) (h0 : I 39 0 = i32 K) (h1 : I 39 1 = i32 R) (h2 : I 39 2 = i32 C) (h3 : I 39 3 = i32 (bN K R C)) (x1 x2 x3 : Int32) (o6 : Option Value) (A : Nat → Nat → Int32) (hA : ∀ c, c < bN K R C → A 40 c = i32 (bRo K C c) ∧ A 41 c = i32 (bCo K C c)) (s : Nat) (hs : s < 4) (m : Nat) : ∀ (c : Nat) (B : Nat → Nat → Int64), c + m = bN K R C → B 44 s = ms (fun c => Nat.blt s (bSd K) && bAt K R C c s) c → ∃ B', mm_run (mm_pr tb_X11_begins) (218, [some (.ref 39), some (.int x1), some (.int x2), some (.int x3), some (.int (i32 s)), some (.int (i32 c)), o6], [], (k + 64, e, (mm_RM r), I, J, A, B)) = mm_run (mm_pr tb_X11_begins) (201, [some (.ref 39), some (.int x1), some (.int x2), some (.int x3), some (.int (i32 (s + 1))), some (.int (i32 (bN K R C))), o6], [], (k + 64, e, (mm_RM r), I, J, A, B')) ∧ B' 44 s = bSs K R C s ∧ (∀ j, j ≠ s → B' 44 j = B 44 j) ∧ (∀ i, i ≠ 44 → B' i = B i) := by
  have hk := bV_K v
  have hn := bN_le v
  have hsd : bSd K ≤ 4 := by
    unfold bSd
    cases Nat.beq K 0 <;> cases Nat.beq K 1 <;> decide
  induction m with
  | zero =>
    intro c B h hB
    have : c = bN K R C := by omega
    subst this
    refine ⟨B, ?_, hB, fun _ _ => rfl, fun _ _ => rfl⟩
    rw [sg_X11_begins_218, h3]
    simp (disch := omega) only [i32_l, iN_l, i32_add, i32_mul, i32_r0, i32_r1, run_bi, run_bi', i32_sub, decide_eq_true_eq, bi_rt, bi_em, bi_0, bi_1, i32_lt, i32_eq, iN_ne, iN_lt, iN_nlt, i32_ix, i32_in,  mm_aft_v, mm_aft_n, mm_aft_x, if_pos, if_neg, ite_true, ite_false, if_true, if_false, not_false_eq_true, not_true_eq_false]
  | succ m ih =>
    intro c B h hB
    obtain ⟨B', f1, f2, f3, f4⟩ := ih (c + 1) (mm_up B 44 s (ms (fun c => Nat.blt s (bSd K) && bAt K R C c s) (c + 1))) (by omega) (by rw [mm_up_eq])
    refine ⟨B', ?_, f2, fun j q => by rw [f3 j q, mm_up_ne2 _ _ _ _ _ _ q], fun i q => by rw [f4 i q]; funext j; rw [mm_up_ne1 _ _ _ _ _ _ q]⟩
    rw [← f1, sg_X11_begins_218, h3]
    simp (disch := omega) only [i32_l, iN_l, i32_add, i32_mul, i32_r0, i32_r1, run_bi, run_bi', i32_sub, decide_eq_true_eq, bi_rt, bi_em, bi_0, bi_1, i32_lt, i32_eq, iN_ne, iN_lt, iN_nlt, i32_ix, i32_in,  mm_aft_v, mm_aft_n, mm_aft_x, if_pos, if_neg, ite_true, ite_false, if_true, if_false, not_false_eq_true, not_true_eq_false]
    rw [sp_Msides k r e I J A B hk.1 h0, mm_aft_v, sg_X11_begins_241, hB]
    have un : ms (fun c => Nat.blt s (bSd K) && bAt K R C c s) (c + 1) = ms (fun c => Nat.blt s (bSd K) && bAt K R C c s) c ||| (if (Nat.blt s (bSd K) && bAt K R C c s) = true then mbit c else 0) := rfl
    rw [un]
    by_cases q : s < bSd K
    · have e1 : Nat.blt s (bSd K) = true := by rw [Nat.blt_eq]; exact q
      simp (disch := omega) only [i32_l, iN_l, i32_add, i32_mul, i32_r0, i32_r1, run_bi, run_bi', i32_sub, decide_eq_true_eq, bi_rt, bi_em, bi_0, bi_1, i32_lt, i32_eq, iN_ne, iN_lt, iN_nlt, i32_ix, i32_in,  mm_aft_v, mm_aft_n, mm_aft_x, if_pos, if_neg, ite_true, ite_false, if_true, if_false, not_false_eq_true, not_true_eq_false]
      rw [sp_MisAt k r e I J A B v h0 h1 h2 hA (by omega) hs, mm_aft_v, sg_X11_begins_252]
      rw [e1, Bool.true_and]
      by_cases q2 : bAt K R C c s = true
      · simp (disch := omega) only [i32_l, iN_l, i32_add, i32_mul, i32_r0, i32_r1, run_bi, run_bi', i32_sub, decide_eq_true_eq, bi_rt, bi_em, bi_0, bi_1, i32_lt, i32_eq, iN_ne, iN_lt, iN_nlt, i32_ix, i32_in,  mm_aft_v, mm_aft_n, mm_aft_x, if_pos, if_neg, ite_true, ite_false, if_true, if_false, not_false_eq_true, not_true_eq_false, q2]
        rw [sp_Mbit, mm_aft_v, sg_X11_begins_260, sg_X11_begins_264]
        simp (disch := omega) only [i32_l, iN_l, i32_add, i32_mul, i32_r0, i32_r1, run_bi, run_bi', i32_sub, decide_eq_true_eq, bi_rt, bi_em, bi_0, bi_1, i32_lt, i32_eq, iN_ne, iN_lt, iN_nlt, i32_ix, i32_in,  mm_aft_v, mm_aft_n, mm_aft_x, if_pos, if_neg, ite_true, ite_false, if_true, if_false, not_false_eq_true, not_true_eq_false]
      · simp (disch := omega) only [i32_l, iN_l, i32_add, i32_mul, i32_r0, i32_r1, run_bi, run_bi', i32_sub, decide_eq_true_eq, bi_rt, bi_em, bi_0, bi_1, i32_lt, i32_eq, iN_ne, iN_lt, iN_nlt, i32_ix, i32_in,  mm_aft_v, mm_aft_n, mm_aft_x, if_pos, if_neg, ite_true, ite_false, if_true, if_false, not_false_eq_true, not_true_eq_false, q2, Bool.false_eq_true]
        rw [sg_X11_begins_263, sg_X11_begins_264]
        simp (disch := omega) only [i32_l, iN_l, i32_add, i32_mul, i32_r0, i32_r1, run_bi, run_bi', i32_sub, decide_eq_true_eq, bi_rt, bi_em, bi_0, bi_1, i32_lt, i32_eq, iN_ne, iN_lt, iN_nlt, i32_ix, i32_in,  mm_aft_v, mm_aft_n, mm_aft_x, if_pos, if_neg, ite_true, ite_false, if_true, if_false, not_false_eq_true, not_true_eq_false]
    · have e1 : Nat.blt s (bSd K) = false := bool_f (by rw [Nat.blt_eq]; exact q)
      simp (disch := omega) only [i32_l, iN_l, i32_add, i32_mul, i32_r0, i32_r1, run_bi, run_bi', i32_sub, decide_eq_true_eq, bi_rt, bi_em, bi_0, bi_1, i32_lt, i32_eq, iN_ne, iN_lt, iN_nlt, i32_ix, i32_in,  mm_aft_v, mm_aft_n, mm_aft_x, if_pos, if_neg, ite_true, ite_false, if_true, if_false, not_false_eq_true, not_true_eq_false]
      rw [e1, Bool.false_and, sg_X11_begins_263, sg_X11_begins_264]
      simp (disch := omega) only [i32_l, iN_l, i32_add, i32_mul, i32_r0, i32_r1, run_bi, run_bi', i32_sub, decide_eq_true_eq, bi_rt, bi_em, bi_0, bi_1, i32_lt, i32_eq, iN_ne, iN_lt, iN_nlt, i32_ix, i32_in,  mm_aft_v, mm_aft_n, mm_aft_x, if_pos, if_neg, ite_true, ite_false, if_true, if_false, not_false_eq_true, not_true_eq_false, Bool.false_eq_true]
theorem sp_Mside (I : Nat → Nat → Int32) {K R C : Nat} (v : bV K R C = true) (h0 : I 39 0 = i32 K) (h1 : I 39 1 = i32 R) (h2 : I 39 2 = i32 C) (h3 : I 39 3 = i32 (bN K R C)) (x1 x2 x3 : Int32) (o5 o6 : Option Value) (A : Nat → Nat → Int32) (hA : ∀ c, c < bN K R C → A 40 c = i32 (bRo K C c) ∧ A 41 c = i32 (bCo K C c)) (B : Nat → Nat → Int64) : ∃ B' o5', mm_run (mm_pr tb_X11_begins) (201, [some (.ref 39), some (.int x1), some (.int x2), some (.int x3), some (.int (i32 0)), o5, o6], [], (k + 64, e, (mm_RM r), I, J, A, B)) = mm_run (mm_pr tb_X11_begins) (320, [some (.ref 39), some (.int x1), some (.int x2), some (.int x3), some (.int (i32 0)), o5', o6], [], (k + 64, e, (mm_RM r), mm_up (mm_up (mm_up (mm_up (mm_up I 39 10 (i32 0)) 39 12 (i32 0)) 39 13 iN) 39 14 (i32 0)) 39 15 (i32 0), J, A, mm_up (mm_up B' 45 0 0) 45 1 0)) ∧ (∀ s, s < 4 → B' 44 s = bSs K R C s) ∧ (∀ i, i ≠ 44 → B' i = B i) := by
  have L : ∀ (m s : Nat) (B : Nat → Nat → Int64) (o5 : Option Value), s + m = 4 → (∀ s', s' < s → B 44 s' = bSs K R C s') → ∃ B' o5', mm_run (mm_pr tb_X11_begins) (201, [some (.ref 39), some (.int x1), some (.int x2), some (.int x3), some (.int (i32 s)), o5, o6], [], (k + 64, e, (mm_RM r), I, J, A, B)) = mm_run (mm_pr tb_X11_begins) (320, [some (.ref 39), some (.int x1), some (.int x2), some (.int x3), some (.int (i32 0)), o5', o6], [], (k + 64, e, (mm_RM r), mm_up (mm_up (mm_up (mm_up (mm_up I 39 10 (i32 0)) 39 12 (i32 0)) 39 13 iN) 39 14 (i32 0)) 39 15 (i32 0), J, A, mm_up (mm_up B' 45 0 0) 45 1 0)) ∧ (∀ s, s < 4 → B' 44 s = bSs K R C s) ∧ (∀ i, i ≠ 44 → B' i = B i) := by
    intro m
    induction m with
    | zero =>
      intro s B o5 h hB
      have : s = 4 := by omega
      subst this
      refine ⟨B, o5, ?_, hB, fun _ _ => rfl⟩
      rw [sg_X11_begins_201]
      simp (disch := omega) only [i32_l, iN_l, i32_add, i32_mul, i32_r0, i32_r1, run_bi, run_bi', i32_sub, decide_eq_true_eq, bi_rt, bi_em, bi_0, bi_1, i32_lt, i32_eq, iN_ne, iN_lt, iN_nlt, i32_ix, i32_in,  mm_aft_v, mm_aft_n, mm_aft_x, if_pos, if_neg, ite_true, ite_false, if_true, if_false, not_false_eq_true, not_true_eq_false]
    | succ m ih =>
      intro s B o5 h hB
      obtain ⟨B1, g1, g2, g3, g4⟩ := sp_Mside_i k r e J I v h0 h1 h2 h3 x1 x2 x3 o6 A hA s (by omega) (bN K R C) 0 (mm_up B 44 s 0) (by omega) (by rw [mm_up_eq]; rfl)
      obtain ⟨B', q5, f1, f2, f3⟩ := ih (s + 1) B1 (some (.int (i32 (bN K R C)))) (by omega) (by
        intro s' hs'
        by_cases q : s' = s
        · subst q; exact g2
        · rw [g3 s' q, mm_up_ne2 _ _ _ _ _ _ q]; exact hB s' (by omega))
      refine ⟨B', q5, ?_, f2, fun i q => by rw [f3 i q, g4 i q]; funext j; rw [mm_up_ne1 _ _ _ _ _ _ q]⟩
      rw [sg_X11_begins_201]
      simp (disch := omega) only [i32_l, iN_l, i32_add, i32_mul, i32_r0, i32_r1, run_bi, run_bi', i32_sub, decide_eq_true_eq, bi_rt, bi_em, bi_0, bi_1, i32_lt, i32_eq, iN_ne, iN_lt, iN_nlt, i32_ix, i32_in,  mm_aft_v, mm_aft_n, mm_aft_x, if_pos, if_neg, ite_true, ite_false, if_true, if_false, not_false_eq_true, not_true_eq_false]
      rw [← f1, ← g1]
  exact L 4 0 B o5 rfl (fun s q => by omega)
end
