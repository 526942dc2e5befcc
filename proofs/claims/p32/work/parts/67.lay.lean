/-! the class lays a board -/
theorem bV_K {K R C : Nat} (v : bV K R C = true) : K < 3 ∧ 2 ≤ R ∧ R ≤ 6 ∧ C ≤ 6 ∧ 2 ≤ C := by
  unfold bV at v
  simp only [Bool.and_eq_true, Nat.blt_eq, Nat.ble_eq] at v
  refine ⟨v.1.1.1.1, v.1.1.1.2, v.1.1.2, v.1.2, ?_⟩
  have h := v.2
  cases e1 : Nat.beq K 1 with
  | true => rw [e1, cond_true] at h; have := Nat.eq_of_beq_eq_true h; omega
  | false =>
    rw [e1, cond_false] at h
    cases e2 : Nat.beq K 2 with
    | true => rw [e2, cond_true] at h; have := Nat.le_of_ble_eq_true h; omega
    | false => rw [e2, cond_false] at h; exact Nat.le_of_ble_eq_true h
theorem bN_le {K R C : Nat} (v : bV K R C = true) : bN K R C ≤ 36 := by
  have := bAll_of b_rng v
  simp only [Bool.and_eq_true, Nat.ble_eq] at this
  exact this.1.1.1.1
theorem bN_pos {K R C : Nat} (v : bV K R C = true) : 3 ≤ bN K R C := by
  have := bAll_of b_rng v
  simp only [Bool.and_eq_true, Nat.ble_eq] at this
  exact this.1.1.1.2
theorem bS_R {K R C : Nat} (v : bV K R C = true) : bS K C R = bN K R C := by
  have := bAll_of b_rng v
  simp only [Bool.and_eq_true, Nat.ble_eq] at this
  exact Nat.eq_of_beq_eq_true this.1.1.2
theorem bS_0 (K C : Nat) : bS K C 0 = 0 := by
  unfold bS
  cases Nat.beq K 1
  · exact Nat.zero_mul _
  · rfl
theorem bS_s {K R C r : Nat} (v : bV K R C = true) (h : r < R) : bS K C (r + 1) = bS K C r + bW K C r ∧ bS K C (r + 1) ≤ 36 := by
  have := bAll_of b_rng v
  simp only [Bool.and_eq_true] at this
  have := all2_of this.2 h (j := 0) (by decide)
  simp only [Bool.and_eq_true, Nat.ble_eq] at this
  exact ⟨Nat.eq_of_beq_eq_true this.1, this.2⟩
theorem bW_le {K R C r : Nat} (v : bV K R C = true) (h : r < R) : bW K C r ≤ 6 := by
  have := bV_K v
  unfold bW
  cases Nat.beq K 1
  · show C ≤ 6; omega
  · show r + 1 ≤ 6; omega
theorem b_rcs {K R C r c : Nat} (v : bV K R C = true) (h : r < R) (hc : c < bW K C r) : bRo K C (bS K C r + c) = r ∧ bCo K C (bS K C r + c) = c := by
  have := all2_of (bAll_of b_rc v) h (j := c) (by have := bW_le v h; omega)
  have e : Nat.blt c (bW K C r) = true := by rw [Nat.blt_eq]; exact hc
  rw [e] at this
  simp only [Bool.not_true, Bool.false_or, Bool.and_eq_true] at this
  exact ⟨Nat.eq_of_beq_eq_true this.1, Nat.eq_of_beq_eq_true this.2⟩
theorem b_rc_lt {K R C c : Nat} (v : bV K R C = true) (h : c < bN K R C) : bRo K C c < R ∧ bCo K C c < 6 := by
  have := all2_of (bAll_of b_rc2 v) h (j := 0) (by decide)
  simp only [Bool.and_eq_true, Nat.blt_eq] at this
  exact this
theorem bK1 (K : Nat) (h : K < 3) : (i32 K = i32 1) ↔ Nat.beq K 1 = true := by
  rw [i32_eq (by omega) (by omega)]
  exact ⟨fun q => by rw [q]; rfl, Nat.eq_of_beq_eq_true⟩
theorem sp_at (k : Nat) (r : Nat → Nat → Value) (e : Nat) (I : Nat → Nat → Int32) (J : Nat → Nat → Int64) (A : Nat → Nat → Int32) (B : Nat → Nat → Int64) (x1 x2 : Int32) : f_X1_at [.ref 1, .int x1, .int x2] (k + 7, e, (mm_RB r), I, J, A, B) = some (.inl (some (.int (atC (I 1 5) (I 1 7) (I 1 6) x1 x2))), (k + 7, e, (mm_RB r), I, J, A, B)) := by
  rw [en_X1_at, sg_X1_at_0]
  unfold atC
  simp only [i32_l, iN_l, sg_X1_at_12, sg_X1_at_31, sg_X1_at_44, sg_X1_at_85, sg_X1_at_99, sg_X1_at_111, ret_ite]
  by_cases h1 : x1 < i32 0
  · rw [if_pos h1, if_pos h1]
  · rw [if_neg h1, if_neg h1]
    by_cases h2 : x1 < I 1 5
    · rw [if_pos h2, if_pos h2]
      by_cases h3 : I 1 7 = i32 1
      · rw [if_pos h3, if_pos h3]
      · rw [if_neg h3, if_neg h3]
        by_cases h4 : I 1 7 = i32 2
        · rw [if_pos h4, if_pos h4]
          by_cases h5 : x2 < i32 0
          · rw [if_pos h5, if_pos h5]
          · rw [if_neg h5, if_neg h5]
            by_cases h6 : x2 < I 1 6
            · rw [if_pos h6, if_pos h6]
            · rw [if_neg h6, if_neg h6]
        · rw [if_neg h4, if_neg h4]
    · rw [if_neg h2, if_neg h2]
section
variable (k : Nat) (r : Nat → Nat → Value) (e : Nat) (I : Nat → Nat → Int32) (J : Nat → Nat → Int64) (B : Nat → Nat → Int64)
theorem sp_numberCells_i {K R C : Nat} (v : bV K R C = true) (row : Nat) (hr : row < R) (d : Nat) : ∀ (col : Nat) (A : Nat → Nat → Int32), col + d = bW K C row → (∀ c, c < bS K C row + col → A 2 c = i32 (bRo K C c) ∧ A 3 c = i32 (bCo K C c)) → ∃ A', mm_run (mm_pr tb_X1_numberCells) (34, [some (.ref 1), some (.int (i32 (bS K C row + col))), some (.int (i32 row)), some (.int (i32 (bW K C row))), some (.int (i32 col))], [], (k + 7, e, (mm_RB r), I, J, A, B)) = mm_run (mm_pr tb_X1_numberCells) (4, [some (.ref 1), some (.int (i32 (bS K C (row + 1)))), some (.int (i32 (row + 1))), some (.int (i32 (bW K C row))), some (.int (i32 (bW K C row)))], [], (k + 7, e, (mm_RB r), I, J, A', B)) ∧ (∀ c, c < bS K C (row + 1) → A' 2 c = i32 (bRo K C c) ∧ A' 3 c = i32 (bCo K C c)) ∧ (∀ i, i ≠ 2 → i ≠ 3 → A' i = A i) := by
  have hs := bS_s v hr
  have hw := bW_le v hr
  have hk := bV_K v
  induction d with
  | zero =>
    intro col A h hA
    have : col = bW K C row := by omega
    subst this
    refine ⟨A, ?_, ?_, fun _ _ _ => rfl⟩
    · rw [sg_X1_numberCells_34]
      simp (disch := omega) only [i32_l, iN_l, i32_add, i32_mul, i32_r0, i32_r1, run_bi, run_bi', i32_sub, decide_eq_true_eq, bi_rt, bi_em, bi_0, bi_1, i32_lt, i32_eq, iN_ne, iN_lt, iN_nlt, i32_ix, i32_in,  mm_aft_v, mm_aft_n, mm_aft_x, if_pos, if_neg, ite_true, ite_false, if_true, if_false, not_false_eq_true, not_true_eq_false, sg_X1_numberCells_70]
      rw [hs.1]
    · rw [hs.1]; exact hA
  | succ d ih =>
    intro col A h hA
    have hrc := b_rcs v hr (c := col) (by omega)
    obtain ⟨A', h1, h2, h3⟩ := ih (col + 1) (mm_up (mm_up A 2 (bS K C row + col) (i32 row)) 3 (bS K C row + col) (i32 col)) (by omega) (by
      intro c hc
      by_cases q : c = bS K C row + col
      · rw [q, mm_up_ne1 _ _ _ _ _ _ (by decide), mm_up_eq, mm_up_eq, hrc.1, hrc.2]; exact ⟨rfl, rfl⟩
      · rw [mm_up_ne1 _ _ _ _ _ _ (by decide), mm_up_ne2 _ _ _ _ _ _ q, mm_up_ne2 _ _ _ _ _ _ q, mm_up_ne1 _ _ _ _ _ _ (by decide)]
        exact hA c (by omega))
    refine ⟨A', ?_, h2, ?_⟩
    · rw [sg_X1_numberCells_34]
      simp (disch := omega) only [i32_l, iN_l, i32_add, i32_mul, i32_r0, i32_r1, run_bi, run_bi', i32_sub, decide_eq_true_eq, bi_rt, bi_em, bi_0, bi_1, i32_lt, i32_eq, iN_ne, iN_lt, iN_nlt, i32_ix, i32_in,  mm_aft_v, mm_aft_n, mm_aft_x, if_pos, if_neg, ite_true, ite_false, if_true, if_false, not_false_eq_true, not_true_eq_false]
      rw [Nat.add_assoc]
      exact h1
    · intro i q1 q2
      rw [h3 i q1 q2]
      funext j
      rw [mm_up_ne1 _ _ _ _ _ _ q2, mm_up_ne1 _ _ _ _ _ _ q1]
theorem sp_numberCells {K R C : Nat} (v : bV K R C = true) (A : Nat → Nat → Int32) (h5 : I 1 5 = i32 R) (h6 : I 1 6 = i32 C) (h7 : I 1 7 = i32 K) : ∃ A', f_X1_numberCells [.ref 1] (k + 7, e, (mm_RB r), I, J, A, B) = some (.inl none, (k + 7, e, (mm_RB r), mm_up I 1 8 (i32 (bN K R C)), J, A', B)) ∧ (∀ c, c < bN K R C → A' 2 c = i32 (bRo K C c) ∧ A' 3 c = i32 (bCo K C c)) ∧ (∀ i, i ≠ 2 → i ≠ 3 → A' i = A i) := by
  have hk := bV_K v
  have L : ∀ (d row : Nat) (A : Nat → Nat → Int32) (o3 o4 : Option Value), row + d = R → (∀ c, c < bS K C row → A 2 c = i32 (bRo K C c) ∧ A 3 c = i32 (bCo K C c)) → ∃ A', mm_run (mm_pr tb_X1_numberCells) (4, [some (.ref 1), some (.int (i32 (bS K C row))), some (.int (i32 row)), o3, o4], [], (k + 7, e, (mm_RB r), I, J, A, B)) = some (.inl none, (k + 7, e, (mm_RB r), mm_up I 1 8 (i32 (bN K R C)), J, A', B)) ∧ (∀ c, c < bN K R C → A' 2 c = i32 (bRo K C c) ∧ A' 3 c = i32 (bCo K C c)) ∧ (∀ i, i ≠ 2 → i ≠ 3 → A' i = A i) := by
    intro d
    induction d with
    | zero =>
      intro row A o3 o4 h hA
      have : row = R := by omega
      subst this
      refine ⟨A, ?_, ?_, fun _ _ _ => rfl⟩
      · rw [sg_X1_numberCells_4, h5]
        simp (disch := omega) only [i32_l, iN_l, i32_add, i32_mul, i32_r0, i32_r1, run_bi, run_bi', i32_sub, decide_eq_true_eq, bi_rt, bi_em, bi_0, bi_1, i32_lt, i32_eq, iN_ne, iN_lt, iN_nlt, i32_ix, i32_in,  mm_aft_v, mm_aft_n, mm_aft_x, if_pos, if_neg, ite_true, ite_false, if_true, if_false, not_false_eq_true, not_true_eq_false]
        rw [bS_R v]
      · rw [← bS_R v]; exact hA
    | succ d ih =>
      intro row A o3 o4 h hA
      obtain ⟨A1, g1, g2, g3⟩ := sp_numberCells_i k r e I J B v row (by omega) (bW K C row) 0 A (by omega) hA
      obtain ⟨A', f1, f2, f3⟩ := ih (row + 1) A1 _ _ (by omega) g2
      refine ⟨A', ?_, f2, fun i q1 q2 => by rw [f3 i q1 q2, g3 i q1 q2]⟩
      rw [sg_X1_numberCells_4, h5, h6, h7]
      simp (disch := omega) only [i32_l, iN_l, i32_add, i32_mul, i32_r0, i32_r1, run_bi, run_bi', i32_sub, decide_eq_true_eq, bi_rt, bi_em, bi_0, bi_1, i32_lt, i32_eq, iN_ne, iN_lt, iN_nlt, i32_ix, i32_in,  mm_aft_v, mm_aft_n, mm_aft_x, if_pos, if_neg, ite_true, ite_false, if_true, if_false, not_false_eq_true, not_true_eq_false, sg_X1_numberCells_30]
      rw [← f1, ← g1]
      cases q : Nat.beq K 1 with
      | true =>
        rw [if_pos ((by rw [Nat.eq_of_beq_eq_true q])), show bW K C row = row + 1 by unfold bW; rw [q]; rfl]
        rfl
      | false =>
        rw [if_neg (by intro q2; rw [q2] at q; cases q), show bW K C row = C by unfold bW; rw [q]; rfl]
        rfl
  rw [en_X1_numberCells, sg_X1_numberCells_0]
  have := L R 0 A none none (by omega) (by intro c hc; rw [bS_0] at hc; omega)
  rw [bS_0] at this
  exact this
end
