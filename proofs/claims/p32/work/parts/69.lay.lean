/-! the class's board, as it lies -/
abbrev CB (K R C : Nat) (I : Nat → Nat → Int32) (J : Nat → Nat → Int64) (A : Nat → Nat → Int32) (B : Nat → Nat → Int64) : Prop := (bV K R C = true) ∧ (I 1 7 = i32 K) ∧ (I 1 5 = i32 R) ∧ (I 1 6 = i32 C) ∧ (I 1 8 = i32 (bN K R C)) ∧ (I 1 9 = i32 (bSd K)) ∧ (J 1 10 = mbit (bN K R C) - 1) ∧ (∀ c, c < bN K R C → A 2 c = i32 (bRo K C c) ∧ A 3 c = i32 (bCo K C c)) ∧ (∀ c d, c < bN K R C → d < 6 → A 4 (c * 6 + d) = bNx K R C c d) ∧ (∀ c, c < bN K R C → B 5 c = bNb K R C c) ∧ (∀ s, s < 4 → B 6 s = bSs K R C s)
theorem CB.v {K R C : Nat} {I : Nat → Nat → Int32} {J : Nat → Nat → Int64} {A : Nat → Nat → Int32} {B : Nat → Nat → Int64} (h : CB K R C I J A B) : bV K R C = true := h.1
theorem CB.kind {K R C : Nat} {I : Nat → Nat → Int32} {J : Nat → Nat → Int64} {A : Nat → Nat → Int32} {B : Nat → Nat → Int64} (h : CB K R C I J A B) : I 1 7 = i32 K := h.2.1
theorem CB.rows {K R C : Nat} {I : Nat → Nat → Int32} {J : Nat → Nat → Int64} {A : Nat → Nat → Int32} {B : Nat → Nat → Int64} (h : CB K R C I J A B) : I 1 5 = i32 R := h.2.2.1
theorem CB.cols {K R C : Nat} {I : Nat → Nat → Int32} {J : Nat → Nat → Int64} {A : Nat → Nat → Int32} {B : Nat → Nat → Int64} (h : CB K R C I J A B) : I 1 6 = i32 C := h.2.2.2.1
theorem CB.cells {K R C : Nat} {I : Nat → Nat → Int32} {J : Nat → Nat → Int64} {A : Nat → Nat → Int32} {B : Nat → Nat → Int64} (h : CB K R C I J A B) : I 1 8 = i32 (bN K R C) := h.2.2.2.2.1
theorem CB.sides {K R C : Nat} {I : Nat → Nat → Int32} {J : Nat → Nat → Int64} {A : Nat → Nat → Int32} {B : Nat → Nat → Int64} (h : CB K R C I J A B) : I 1 9 = i32 (bSd K) := h.2.2.2.2.2.1
theorem CB.all {K R C : Nat} {I : Nat → Nat → Int32} {J : Nat → Nat → Int64} {A : Nat → Nat → Int32} {B : Nat → Nat → Int64} (h : CB K R C I J A B) : J 1 10 = mbit (bN K R C) - 1 := h.2.2.2.2.2.2.1
theorem CB.rc {K R C : Nat} {I : Nat → Nat → Int32} {J : Nat → Nat → Int64} {A : Nat → Nat → Int32} {B : Nat → Nat → Int64} (h : CB K R C I J A B) : ∀ c, c < bN K R C → A 2 c = i32 (bRo K C c) ∧ A 3 c = i32 (bCo K C c) := h.2.2.2.2.2.2.2.1
theorem CB.nx {K R C : Nat} {I : Nat → Nat → Int32} {J : Nat → Nat → Int64} {A : Nat → Nat → Int32} {B : Nat → Nat → Int64} (h : CB K R C I J A B) : ∀ c d, c < bN K R C → d < 6 → A 4 (c * 6 + d) = bNx K R C c d := h.2.2.2.2.2.2.2.2.1
theorem CB.nb {K R C : Nat} {I : Nat → Nat → Int32} {J : Nat → Nat → Int64} {A : Nat → Nat → Int32} {B : Nat → Nat → Int64} (h : CB K R C I J A B) : ∀ c, c < bN K R C → B 5 c = bNb K R C c := h.2.2.2.2.2.2.2.2.2.1
theorem CB.sd {K R C : Nat} {I : Nat → Nat → Int32} {J : Nat → Nat → Int64} {A : Nat → Nat → Int32} {B : Nat → Nat → Int64} (h : CB K R C I J A B) : ∀ s, s < 4 → B 6 s = bSs K R C s := h.2.2.2.2.2.2.2.2.2.2
theorem mb_all1 : ∀ n : Fin 37, ∀ c : Fin 64, mb (mbit n.1 - 1) c.1 = decide (c.1 < n.1) := by decide +kernel
theorem mb_all {n : Nat} (h : n ≤ 36) (c : Nat) : mb (mbit n - 1) c = decide (c < n) := by
  rcases Nat.lt_or_ge c 64 with q | q
  · exact mb_all1 ⟨n, by omega⟩ ⟨c, q⟩
  · rw [mb_hi _ _ q, decide_eq_false (by omega)]
theorem bSs_p (K R C s : Nat) : bSs K R C s = ms (fun c => Nat.blt s (bSd K) && bAt K R C c s) (bN K R C) := rfl
section
variable (k : Nat) (r : Nat → Nat → Value) (e : Nat) (I : Nat → Nat → Int32) (J : Nat → Nat → Int64)
theorem sp_findSides_i {K R C : Nat} (v : bV K R C = true) (h5 : I 1 5 = i32 R) (h6 : I 1 6 = i32 C) (h7 : I 1 7 = i32 K) (h8 : I 1 8 = i32 (bN K R C)) (h9 : I 1 9 = i32 (bSd K)) (A : Nat → Nat → Int32) (hA : ∀ c, c < bN K R C → A 2 c = i32 (bRo K C c) ∧ A 3 c = i32 (bCo K C c)) (B : Nat → Nat → Int64) (s : Nat) (hs : s < 4) (m : Nat) : ∀ (c : Nat), c + m = bN K R C → mm_run (mm_pr tb_X1_findSides) (12, [some (.ref 1), some (.int (i32 s)), some (.long (ms (fun c => Nat.blt s (bSd K) && bAt K R C c s) c)), none, some (.int (i32 c))], [], (k + 7, e, (mm_RB r), I, J, A, B)) = mm_run (mm_pr tb_X1_findSides) (2, [some (.ref 1), some (.int (i32 (s + 1))), some (.long (bSs K R C s)), none, some (.int (i32 (bN K R C)))], [], (k + 7, e, (mm_RB r), I, J, A, mm_up B 6 s (bSs K R C s))) := by
  have hk := bV_K v
  have hn := bN_le v
  have hsd : bSd K ≤ 4 := by
    unfold bSd
    cases Nat.beq K 0 <;> cases Nat.beq K 1 <;> decide
  induction m with
  | zero =>
    intro c h
    have : c = bN K R C := by omega
    subst this
    rw [sg_X1_findSides_12, h8]
    simp (disch := omega) only [i32_l, iN_l, i32_add, i32_mul, i32_r0, i32_r1, run_bi, run_bi', i32_sub, decide_eq_true_eq, bi_rt, bi_em, bi_0, bi_1, i32_lt, i32_eq, iN_ne, iN_lt, iN_nlt, i32_ix, i32_in,  mm_aft_v, mm_aft_n, mm_aft_x, if_pos, if_neg, ite_true, ite_false, if_true, if_false, not_false_eq_true, not_true_eq_false]
    rw [bSs_p]
  | succ m ih =>
    intro c h
    rw [sg_X1_findSides_12, h8, h9]
    have := ih (c + 1) (by omega)
    by_cases q : s < bSd K
    · have e1 : Nat.blt s (bSd K) = true := by rw [Nat.blt_eq]; exact q
      simp (disch := omega) only [i32_l, iN_l, i32_add, i32_mul, i32_r0, i32_r1, run_bi, run_bi', i32_sub, decide_eq_true_eq, bi_rt, bi_em, bi_0, bi_1, i32_lt, i32_eq, iN_ne, iN_lt, iN_nlt, i32_ix, i32_in,  mm_aft_v, mm_aft_n, mm_aft_x, if_pos, if_neg, ite_true, ite_false, if_true, if_false, not_false_eq_true, not_true_eq_false]
      rw [sp_isAt k r e I J A B v h5 h6 h7 hA (by omega) hs, mm_aft_v, sg_X1_findSides_37]
      simp (disch := omega) only [i32_l, iN_l, i32_add, i32_mul, i32_r0, i32_r1, run_bi, run_bi', i32_sub, decide_eq_true_eq, bi_rt, bi_em, bi_0, bi_1, i32_lt, i32_eq, iN_ne, iN_lt, iN_nlt, i32_ix, i32_in,  mm_aft_v, mm_aft_n, mm_aft_x, if_pos, if_neg, ite_true, ite_false, if_true, if_false, not_false_eq_true, not_true_eq_false, sg_X1_findSides_47, sg_X1_findSides_48]
      rw [← this]
      show _ = mm_run _ (12, [_, _, some (.long (_ ||| (if (Nat.blt s (bSd K) && bAt K R C c s) = true then mbit c else 0))), _, _], _, _)
      rw [e1, Bool.true_and]
      by_cases q2 : bAt K R C c s = true
      · rw [if_neg (by rw [q2]; exact fun f => f rfl), if_pos q2]; rfl
      · rw [if_pos q2, if_neg q2]
    · have e1 : Nat.blt s (bSd K) = false := bool_f (by rw [Nat.blt_eq]; exact q)
      simp (disch := omega) only [i32_l, iN_l, i32_add, i32_mul, i32_r0, i32_r1, run_bi, run_bi', i32_sub, decide_eq_true_eq, bi_rt, bi_em, bi_0, bi_1, i32_lt, i32_eq, iN_ne, iN_lt, iN_nlt, i32_ix, i32_in,  mm_aft_v, mm_aft_n, mm_aft_x, if_pos, if_neg, ite_true, ite_false, if_true, if_false, not_false_eq_true, not_true_eq_false, sg_X1_findSides_47, sg_X1_findSides_48]
      rw [← this]
      show _ = mm_run _ (12, [_, _, some (.long (_ ||| (if (Nat.blt s (bSd K) && bAt K R C c s) = true then mbit c else 0))), _, _], _, _)
      rw [e1, Bool.false_and, if_neg (by decide)]
theorem sp_findSides {K R C : Nat} (v : bV K R C = true) (h5 : I 1 5 = i32 R) (h6 : I 1 6 = i32 C) (h7 : I 1 7 = i32 K) (h8 : I 1 8 = i32 (bN K R C)) (h9 : I 1 9 = i32 (bSd K)) (A : Nat → Nat → Int32) (hA : ∀ c, c < bN K R C → A 2 c = i32 (bRo K C c) ∧ A 3 c = i32 (bCo K C c)) (B : Nat → Nat → Int64) : ∃ B', f_X1_findSides [.ref 1] (k + 7, e, (mm_RB r), I, J, A, B) = some (.inl none, (k + 7, e, (mm_RB r), I, J, A, B')) ∧ (∀ s, s < 4 → B' 6 s = bSs K R C s) ∧ (∀ i, i ≠ 6 → B' i = B i) := by
  have L : ∀ (m s : Nat) (B : Nat → Nat → Int64) (o2 o4 : Option Value), s + m = 4 → (∀ s', s' < s → B 6 s' = bSs K R C s') → ∃ B', mm_run (mm_pr tb_X1_findSides) (2, [some (.ref 1), some (.int (i32 s)), o2, none, o4], [], (k + 7, e, (mm_RB r), I, J, A, B)) = some (.inl none, (k + 7, e, (mm_RB r), I, J, A, B')) ∧ (∀ s, s < 4 → B' 6 s = bSs K R C s) ∧ (∀ i, i ≠ 6 → B' i = B i) := by
    intro m
    induction m with
    | zero =>
      intro s B o2 o4 h hB
      have : s = 4 := by omega
      subst this
      refine ⟨B, ?_, hB, fun _ _ => rfl⟩
      rw [sg_X1_findSides_2]
      simp (disch := omega) only [i32_l, iN_l, i32_add, i32_mul, i32_r0, i32_r1, run_bi, run_bi', i32_sub, decide_eq_true_eq, bi_rt, bi_em, bi_0, bi_1, i32_lt, i32_eq, iN_ne, iN_lt, iN_nlt, i32_ix, i32_in,  mm_aft_v, mm_aft_n, mm_aft_x, if_pos, if_neg, ite_true, ite_false, if_true, if_false, not_false_eq_true, not_true_eq_false]
    | succ m ih =>
      intro s B o2 o4 h hB
      obtain ⟨B', f1, f2, f3⟩ := ih (s + 1) (mm_up B 6 s (bSs K R C s)) (some (.long (bSs K R C s))) (some (.int (i32 (bN K R C)))) (by omega) (by
        intro s' hs'
        by_cases q : s' = s
        · subst q; rw [mm_up_eq]
        · rw [mm_up_ne2 _ _ _ _ _ _ q]; exact hB s' (by omega))
      refine ⟨B', ?_, f2, fun i q => by rw [f3 i q]; funext j; rw [mm_up_ne1 _ _ _ _ _ _ q]⟩
      rw [sg_X1_findSides_2]
      simp (disch := omega) only [i32_l, iN_l, i32_add, i32_mul, i32_r0, i32_r1, run_bi, run_bi', i32_sub, decide_eq_true_eq, bi_rt, bi_em, bi_0, bi_1, i32_lt, i32_eq, iN_ne, iN_lt, iN_nlt, i32_ix, i32_in,  mm_aft_v, mm_aft_n, mm_aft_x, if_pos, if_neg, ite_true, ite_false, if_true, if_false, not_false_eq_true, not_true_eq_false]
      rw [← f1]
      exact sp_findSides_i k r e I J v h5 h6 h7 h8 h9 A hA B s (by omega) (bN K R C) 0 (by omega)
  obtain ⟨B', f1, f2, f3⟩ := L 4 0 B none none rfl (fun s q => by omega)
  refine ⟨B', ?_, f2, f3⟩
  rw [en_X1_findSides, sg_X1_findSides_0]
  exact f1
theorem sp_lay {K R C : Nat} (v : bV K R C = true) (A : Nat → Nat → Int32) (B : Nat → Nat → Int64) : ∃ I' J' A' B', f_X1_lay [.ref 1, .int (i32 K), .int (i32 R), .int (i32 C)] (k + 7, e, (mm_RB r), I, J, A, B) = some (.inl none, (k + 7, e, (mm_RB r), I', J', A', B')) ∧ CB K R C I' J' A' B' ∧ (∀ i, i ≠ 1 → I' i = I i) ∧ (∀ i, i ≠ 1 → J' i = J i) ∧ (∀ i, i ≠ 2 → i ≠ 3 → i ≠ 4 → A' i = A i) ∧ (∀ i, i ≠ 5 → i ≠ 6 → B' i = B i) := by
  have hk := bV_K v
  have hn := bN_le v
  have hu : ∀ (I : Nat → Nat → Int32) p x i, i ≠ 1 → mm_up I 1 p x i = I i := fun I p x i q => by funext j; rw [mm_up_ne1 _ _ _ _ _ _ q]
  have huJ : ∀ (I : Nat → Nat → Int64) p x i, i ≠ 1 → mm_up I 1 p x i = I i := fun I p x i q => by funext j; rw [mm_up_ne1 _ _ _ _ _ _ q]
  have hd : ∀ (y : Int32), y = i32 (bSd K) → ∃ I' J' A' B', mm_run (mm_pr tb_X1_lay) (40, [some (.ref 1), some (.int (i32 K)), some (.int (i32 R)), some (.int (i32 C))], [.int y, .ref 1], (k + 7, e, (mm_RB r), mm_up (mm_up (mm_up I 1 7 (i32 K)) 1 5 (i32 R)) 1 6 (i32 C), J, A, B)) = some (.inl none, (k + 7, e, (mm_RB r), I', J', A', B')) ∧ CB K R C I' J' A' B' ∧ (∀ i, i ≠ 1 → I' i = I i) ∧ (∀ i, i ≠ 1 → J' i = J i) ∧ (∀ i, i ≠ 2 → i ≠ 3 → i ≠ 4 → A' i = A i) ∧ (∀ i, i ≠ 5 → i ≠ 6 → B' i = B i) := by
    intro y hy
    subst hy
    rw [sg_X1_lay_40]
    generalize hI1 : mm_up (mm_up (mm_up (mm_up I 1 7 (i32 K)) 1 5 (i32 R)) 1 6 (i32 C)) 1 9 (i32 (bSd K)) = I1
    have g7 : I1 1 7 = i32 K := by rw [← hI1, mm_up_ne2 _ _ _ _ _ _ (by decide), mm_up_ne2 _ _ _ _ _ _ (by decide), mm_up_ne2 _ _ _ _ _ _ (by decide), mm_up_eq]
    have g5 : I1 1 5 = i32 R := by rw [← hI1, mm_up_ne2 _ _ _ _ _ _ (by decide), mm_up_ne2 _ _ _ _ _ _ (by decide), mm_up_eq]
    have g6 : I1 1 6 = i32 C := by rw [← hI1, mm_up_ne2 _ _ _ _ _ _ (by decide), mm_up_eq]
    have g9 : I1 1 9 = i32 (bSd K) := by rw [← hI1, mm_up_eq]
    have gI : ∀ i, i ≠ 1 → I1 i = I i := fun i q => by rw [← hI1, hu _ _ _ _ q, hu _ _ _ _ q, hu _ _ _ _ q, hu _ _ _ _ q]
    obtain ⟨A1, a1, a2, a3⟩ := sp_numberCells k r e I1 J B v A g5 g6 g7
    rw [a1, mm_aft_n, sg_X1_lay_47, mm_up_eq]
    generalize hI2 : mm_up I1 1 8 (i32 (bN K R C)) = I2
    have p7 : I2 1 7 = i32 K := by rw [← hI2, mm_up_ne2 _ _ _ _ _ _ (by decide), g7]
    have p5 : I2 1 5 = i32 R := by rw [← hI2, mm_up_ne2 _ _ _ _ _ _ (by decide), g5]
    have p6 : I2 1 6 = i32 C := by rw [← hI2, mm_up_ne2 _ _ _ _ _ _ (by decide), g6]
    have p9 : I2 1 9 = i32 (bSd K) := by rw [← hI2, mm_up_ne2 _ _ _ _ _ _ (by decide), g9]
    have p8 : I2 1 8 = i32 (bN K R C) := by rw [← hI2, mm_up_eq]
    generalize hJ2 : mm_up J 1 10 ((1 : Int64) <<< ((i32 (bN K R C)).toInt64 &&& 63) - 1) = J2
    have pJ : J2 1 10 = mbit (bN K R C) - 1 := by rw [← hJ2, mm_up_eq]; rfl
    obtain ⟨A2, B2, b1, b2, b3, b4, b5⟩ := sp_meet k r e I2 J2 v p5 p6 p7 p8 A1 B a2
    rw [b1, mm_aft_n, sg_X1_lay_63]
    have a2' : ∀ c, c < bN K R C → A2 2 c = i32 (bRo K C c) ∧ A2 3 c = i32 (bCo K C c) := by
      intro c hc
      rw [b4 2 (by decide), b4 3 (by decide)]
      exact a2 c hc
    obtain ⟨B3, c1, c2, c3⟩ := sp_findSides k r e I2 J2 v p5 p6 p7 p8 p9 A2 a2' B2
    rw [c1, mm_aft_n, sg_X1_lay_67]
    refine ⟨I2, J2, A2, B3, rfl, ⟨v, p7, p5, p6, p8, p9, pJ, a2', b2, fun c hc => by rw [c3 5 (by decide)]; exact b3 c hc, c2⟩, ?_, ?_, ?_, ?_⟩
    · intro i q
      rw [← hI2, hu _ _ _ _ q, gI i q]
    · intro i q
      rw [← hJ2, huJ _ _ _ _ q]
    · intro i q1 q2 q3
      rw [b4 i q3, a3 i q1 q2]
    · intro i q1 q2
      rw [c3 i q2, b5 i q1]
  rw [en_X1_lay, sg_X1_lay_0]
  simp only [i32_l]
  by_cases q0 : K = 0
  · rw [if_pos (by rw [q0])]
    exact hd _ (by rw [q0]; rfl)
  · rw [if_neg (by rw [i32_eq (by omega) (by decide)]; exact q0)]
    by_cases q1 : K = 1
    · rw [if_pos (by rw [q1])]
      exact hd _ (by rw [q1]; rfl)
    · rw [if_neg (by rw [i32_eq (by omega) (by decide)]; exact q1)]
      exact hd _ (by have : K = 2 := by omega
                     rw [this]; rfl)
end
