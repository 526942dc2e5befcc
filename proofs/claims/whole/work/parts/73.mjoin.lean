/-! the reference's beginning as a whole; joining there -/
theorem bi_ok (b : Bool) : bi b = 0 ∨ bi b = 1 := by cases b <;> decide
theorem MB.md {K R C : Nat} {I : Nat → Nat → Int32} {A : Nat → Nat → Int32} {B : Nat → Nat → Int64} (h : MB K R C I A B) : MD (bN K R C) I B := by
  refine ⟨bN_le h.v, h.cells, fun c d hc q => ?_⟩
  rw [h.nb c hc] at q
  exact bNb_lt h.v q
section
variable (k : Nat) (r : Nat → Nat → Value) (e : Nat) (J : Nat → Nat → Int64)
theorem sp_begins (I : Nat → Nat → Int32) (A : Nat → Nat → Int32) (B : Nat → Nat → Int64) {K R C : Nat} (v : bV K R C = true) : ∃ I' A' B', f_X11_begins [.ref 39, .int (i32 K), .int (i32 R), .int (i32 C)] (k + 64, e, (mm_RM r), I, J, A, B) = some (.inl none, (k + 64, e, (mm_RM r), I', J, A', B')) ∧ MB K R C I' A' B' ∧ (I' 39 10 = i32 0 ∧ I' 39 12 = i32 0 ∧ I' 39 13 = iN ∧ I' 39 14 = i32 0 ∧ I' 39 15 = i32 0 ∧ (∀ p, p < 2 → A' 47 p = i32 0 ∧ A' 48 p = i32 0 ∧ A' 49 p = i32 0) ∧ B' 45 0 = 0 ∧ B' 45 1 = 0) ∧ (∀ i, i ≠ 39 → I' i = I i) ∧ (∀ p, 16 ≤ p → I' 39 p = I 39 p) ∧ (∀ i, i ≠ 40 → i ≠ 41 → i ≠ 42 → i ≠ 47 → i ≠ 48 → i ≠ 49 → A' i = A i) ∧ (∀ i, i ≠ 43 → i ≠ 44 → i ≠ 45 → B' i = B i) := by
  have hu : ∀ (I : Nat → Nat → Int32) p x i, i ≠ 39 → mm_up I 39 p x i = I i := fun I p x i q => by funext j; rw [mm_up_ne1 _ _ _ _ _ _ q]
  have huB : ∀ (I : Nat → Nat → Int64) p x i, i ≠ 45 → mm_up I 45 p x i = I i := fun I p x i q => by funext j; rw [mm_up_ne1 _ _ _ _ _ _ q]
  have huA : ∀ (I : Nat → Nat → Int32) w p x i, i ≠ w → mm_up I w p x i = I i := fun I w p x i q => by funext j; rw [mm_up_ne1 _ _ _ _ _ _ q]
  rw [en_X11_begins, sg_X11_begins_0]
  simp only [i32_l]
  obtain ⟨A1, o5, a1, a2, a3⟩ := sp_Mnum k r e J B (mm_up (mm_up (mm_up I 39 0 (i32 K)) 39 1 (i32 R)) 39 2 (i32 C)) v A
  rw [a1]
  generalize hI2 : mm_up (mm_up (mm_up (mm_up I 39 0 (i32 K)) 39 1 (i32 R)) 39 2 (i32 C)) 39 3 (i32 (bN K R C)) = I2
  have p0 : I2 39 0 = i32 K := by rw [← hI2, mm_up_ne2 _ _ _ _ _ _ (by decide), mm_up_ne2 _ _ _ _ _ _ (by decide), mm_up_ne2 _ _ _ _ _ _ (by decide), mm_up_eq]
  have p1 : I2 39 1 = i32 R := by rw [← hI2, mm_up_ne2 _ _ _ _ _ _ (by decide), mm_up_ne2 _ _ _ _ _ _ (by decide), mm_up_eq]
  have p2 : I2 39 2 = i32 C := by rw [← hI2, mm_up_ne2 _ _ _ _ _ _ (by decide), mm_up_eq]
  have p3 : I2 39 3 = i32 (bN K R C) := by rw [← hI2, mm_up_eq]
  have pI : ∀ i, i ≠ 39 → I2 i = I i := fun i q => by rw [← hI2, hu _ _ _ _ q, hu _ _ _ _ q, hu _ _ _ _ q, hu _ _ _ _ q]
  have pp : ∀ p, 16 ≤ p → I2 39 p = I 39 p := fun p q => by rw [← hI2, mm_up_ne2 _ _ _ _ _ _ (by omega), mm_up_ne2 _ _ _ _ _ _ (by omega), mm_up_ne2 _ _ _ _ _ _ (by omega), mm_up_ne2 _ _ _ _ _ _ (by omega)]
  obtain ⟨A2, B2, q5, q6, b1, b2, b3, b4, b5⟩ := sp_Mmeet k r e J I2 v p0 p1 p2 p3 (i32 K) (i32 R) (i32 C) A1 B o5 a2
  rw [b1]
  have a2' : ∀ c, c < bN K R C → A2 40 c = i32 (bRo K C c) ∧ A2 41 c = i32 (bCo K C c) := by
    intro c hc
    rw [b4 40 (by decide), b4 41 (by decide)]
    exact a2 c hc
  obtain ⟨B3, s5, c1, c2, c3⟩ := sp_Mside k r e J I2 v p0 p1 p2 p3 (i32 K) (i32 R) (i32 C) q5 q6 A2 a2' B2
  rw [c1]
  generalize hI3 : mm_up (mm_up (mm_up (mm_up (mm_up I2 39 10 (i32 0)) 39 12 (i32 0)) 39 13 iN) 39 14 (i32 0)) 39 15 (i32 0) = I3
  generalize hB3 : mm_up (mm_up B3 45 0 0) 45 1 0 = B4
  rw [sg_X11_begins_320]
  simp (disch := omega) only [i32_l, iN_l, i32_add, i32_mul, i32_r0, i32_r1, run_bi, run_bi', i32_sub, decide_eq_true_eq, bi_rt, bi_em, bi_0, bi_1, i32_lt, i32_eq, iN_ne, iN_lt, iN_nlt, i32_ix, i32_in,  mm_aft_v, mm_aft_n, mm_aft_x, if_pos, if_neg, ite_true, ite_false, if_true, if_false, not_false_eq_true, not_true_eq_false]
  rw [sg_X11_begins_320]
  simp (disch := omega) only [i32_l, iN_l, i32_add, i32_mul, i32_r0, i32_r1, run_bi, run_bi', i32_sub, decide_eq_true_eq, bi_rt, bi_em, bi_0, bi_1, i32_lt, i32_eq, iN_ne, iN_lt, iN_nlt, i32_ix, i32_in,  mm_aft_v, mm_aft_n, mm_aft_x, if_pos, if_neg, ite_true, ite_false, if_true, if_false, not_false_eq_true, not_true_eq_false]
  rw [sg_X11_begins_320]
  simp (disch := omega) only [i32_l, iN_l, i32_add, i32_mul, i32_r0, i32_r1, run_bi, run_bi', i32_sub, decide_eq_true_eq, bi_rt, bi_em, bi_0, bi_1, i32_lt, i32_eq, iN_ne, iN_lt, iN_nlt, i32_ix, i32_in,  mm_aft_v, mm_aft_n, mm_aft_x, if_pos, if_neg, ite_true, ite_false, if_true, if_false, not_false_eq_true, not_true_eq_false]
  refine ⟨_, _, _, rfl, ⟨v, ?_, ?_, ?_, ?_, ?_, ?_, ?_, ?_⟩, ⟨?_, ?_, ?_, ?_, ?_, ?_, ?_, ?_⟩, ?_, ?_, ?_, ?_⟩
  · rw [← hI3, mm_up_ne2 _ _ _ _ _ _ (by decide), mm_up_ne2 _ _ _ _ _ _ (by decide), mm_up_ne2 _ _ _ _ _ _ (by decide), mm_up_ne2 _ _ _ _ _ _ (by decide), mm_up_ne2 _ _ _ _ _ _ (by decide), p0]
  · rw [← hI3, mm_up_ne2 _ _ _ _ _ _ (by decide), mm_up_ne2 _ _ _ _ _ _ (by decide), mm_up_ne2 _ _ _ _ _ _ (by decide), mm_up_ne2 _ _ _ _ _ _ (by decide), mm_up_ne2 _ _ _ _ _ _ (by decide), p1]
  · rw [← hI3, mm_up_ne2 _ _ _ _ _ _ (by decide), mm_up_ne2 _ _ _ _ _ _ (by decide), mm_up_ne2 _ _ _ _ _ _ (by decide), mm_up_ne2 _ _ _ _ _ _ (by decide), mm_up_ne2 _ _ _ _ _ _ (by decide), p2]
  · rw [← hI3, mm_up_ne2 _ _ _ _ _ _ (by decide), mm_up_ne2 _ _ _ _ _ _ (by decide), mm_up_ne2 _ _ _ _ _ _ (by decide), mm_up_ne2 _ _ _ _ _ _ (by decide), mm_up_ne2 _ _ _ _ _ _ (by decide), p3]
  · intro c hc
    rw [huA _ _ _ _ 40 (by decide), huA _ _ _ _ 40 (by decide), huA _ _ _ _ 40 (by decide), huA _ _ _ _ 40 (by decide), huA _ _ _ _ 40 (by decide), huA _ _ _ _ 40 (by decide), huA _ _ _ _ 41 (by decide), huA _ _ _ _ 41 (by decide), huA _ _ _ _ 41 (by decide), huA _ _ _ _ 41 (by decide), huA _ _ _ _ 41 (by decide), huA _ _ _ _ 41 (by decide)]
    exact a2' c hc
  · intro c d hc hd
    rw [huA _ _ _ _ 42 (by decide), huA _ _ _ _ 42 (by decide), huA _ _ _ _ 42 (by decide), huA _ _ _ _ 42 (by decide), huA _ _ _ _ 42 (by decide), huA _ _ _ _ 42 (by decide)]
    exact b2 c d hc hd
  · intro c hc
    rw [← hB3, huB _ _ _ 43 (by decide), huB _ _ _ 43 (by decide), c3 43 (by decide)]
    exact b3 c hc
  · intro s hs
    rw [← hB3, huB _ _ _ 44 (by decide), huB _ _ _ 44 (by decide)]
    exact c2 s hs
  · rw [← hI3, mm_up_ne2 _ _ _ _ _ _ (by decide), mm_up_ne2 _ _ _ _ _ _ (by decide), mm_up_ne2 _ _ _ _ _ _ (by decide), mm_up_ne2 _ _ _ _ _ _ (by decide), mm_up_eq]
  · rw [← hI3, mm_up_ne2 _ _ _ _ _ _ (by decide), mm_up_ne2 _ _ _ _ _ _ (by decide), mm_up_ne2 _ _ _ _ _ _ (by decide), mm_up_eq]
  · rw [← hI3, mm_up_ne2 _ _ _ _ _ _ (by decide), mm_up_ne2 _ _ _ _ _ _ (by decide), mm_up_eq]
  · rw [← hI3, mm_up_ne2 _ _ _ _ _ _ (by decide), mm_up_eq]
  · rw [← hI3, mm_up_eq]
  · intro p hp
    have : p = 0 ∨ p = 1 := by omega
    rcases this with q | q <;> (subst q; refine ⟨rfl, rfl, rfl⟩)
  · rw [← hB3, mm_up_ne2 _ _ _ _ _ _ (by decide), mm_up_eq]
  · rw [← hB3, mm_up_eq]
  · intro i q
    rw [← hI3, hu _ _ _ _ q, hu _ _ _ _ q, hu _ _ _ _ q, hu _ _ _ _ q, hu _ _ _ _ q, pI i q]
  · intro p q
    rw [← hI3, mm_up_ne2 _ _ _ _ _ _ (by omega), mm_up_ne2 _ _ _ _ _ _ (by omega), mm_up_ne2 _ _ _ _ _ _ (by omega), mm_up_ne2 _ _ _ _ _ _ (by omega), mm_up_ne2 _ _ _ _ _ _ (by omega), pp p q]
  · intro i q1 q2 q3 q4 q5 q6
    rw [huA _ _ _ _ i q6, huA _ _ _ _ i q5, huA _ _ _ _ i q4, huA _ _ _ _ i q6, huA _ _ _ _ i q5, huA _ _ _ _ i q4, b4 i q3, a3 i q1 q2]
  · intro i q1 q2 q3
    rw [← hB3, huB _ _ _ i q3, huB _ _ _ i q3, c3 i q2, b5 i q1]
end
section
variable (k : Nat) (r : Nat → Nat → Value) (e : Nat) (I : Nat → Nat → Int32) (J : Nat → Nat → Int64) (A : Nat → Nat → Int32) (B : Nat → Nat → Int64)
theorem sp_spreadsB {K R C : Nat} (h : MB K R C I A B) (a w : Int64) (hb : ∀ c, mb a c = true → mb w c = true → c < bN K R C) : f_X11_spreads [.ref 39, .long a, .long w] (k + 64, e, (mm_RM r), I, J, A, B) = some (.inl (some (.long (rcB K R C a w))), (k + 64, e, (mm_RM r), I, J, A, B)) := by
  rw [sp_spreads k r e I J A B a w _ h.md hb]
  have := bN_le h.v
  rw [rch_congr (nb' := bNb K R C) (by omega) h.nb]
  rfl
theorem low_lt {l w : Int64} {n : Nat} (h0 : ¬ l = 0) (hl : ∀ c, mb l c = true → c < n) (c : Nat) (q : mb (l &&& (-l)) c = true) (_ : mb w c = true) : c < n := by
  rw [mlo_bit h0, mb_bit _ _ (mlo_lt h0), decide_eq_true_eq] at q
  rw [← q]
  exact hl _ (mlo_mb h0)
theorem sp_Mgroups {K R C : Nat} (h : MB K R C I A B) {p : Nat} (hp : p < 2) (hw : ∀ c, mb (B 45 p) c = true → c < bN K R C) : f_X11_groups [.ref 39, .int (i32 p)] (k + 64, e, (mm_RM r), I, J, A, B) = some (.inl (some (.int (i32 (grF (rcB K R C) (B 45 p) 36 (B 45 p))))), (k + 64, e, (mm_RM r), I, J, A, B)) := by
  have hn := bN_le h.v
  have L : ∀ (f g : Nat) (l : Int64), cf (mb l) (bN K R C) ≤ f → (∀ c, mb l c = true → c < bN K R C) → (∀ c, mb l c = true → mb (B 45 p) c = true) → mm_run (mm_pr tb_X11_groups) (10, [some (.ref 39), some (.int (i32 p)), some (.long l), none, some (.int (i32 g))], [], (k + 64, e, (mm_RM r), I, J, A, B)) = some (.inl (some (.int (i32 (g + grF (rcB K R C) (B 45 p) f l)))), (k + 64, e, (mm_RM r), I, J, A, B)) := by
    intro f
    induction f with
    | zero =>
      intro g l hc h1 h2
      have h0 : l = 0 := by
        apply Classical.byContradiction
        intro q
        have := cf_pos q h1
        omega
      rw [sg_X11_groups_10, if_pos h0]
      rfl
    | succ f ih =>
      intro g l hc h1 h2
      rw [sg_X11_groups_10]
      by_cases h0 : l = 0
      · rw [if_pos h0, h0, grF_0]
        rfl
      · rw [if_neg h0]
        simp (disch := omega) only [i32_l, iN_l, i32_add, i32_mul, i32_r0, i32_r1, run_bi, run_bi', i32_sub, decide_eq_true_eq, bi_rt, bi_em, bi_0, bi_1, i32_lt, i32_eq, iN_ne, iN_lt, iN_nlt, i32_ix, i32_in,  mm_aft_v, mm_aft_n, mm_aft_x, if_pos, if_neg, ite_true, ite_false, if_true, if_false, not_false_eq_true, not_true_eq_false]
        rw [sp_spreadsB k r e I J A B h _ _ (low_lt h0 h1), mm_aft_v, sg_X11_groups_31]
        simp (disch := omega) only [i32_l, iN_l, i32_add, i32_mul, i32_r0, i32_r1, run_bi, run_bi', i32_sub, decide_eq_true_eq, bi_rt, bi_em, bi_0, bi_1, i32_lt, i32_eq, iN_ne, iN_lt, iN_nlt, i32_ix, i32_in,  mm_aft_v, mm_aft_n, mm_aft_x, if_pos, if_neg, ite_true, ite_false, if_true, if_false, not_false_eq_true, not_true_eq_false]
        have d := cf_dec hn (bNb K R C) h0 h1 h2
        rw [ih (g + 1) _ (by unfold rcB; omega) (and_lt h1) (and_w h2)]
        rw [grF_s _ _ _ h0, Nat.add_assoc g 1, Nat.add_comm 1]
  rw [en_X11_groups, sg_X11_groups_0]
  simp (disch := omega) only [i32_l, iN_l, i32_add, i32_mul, i32_r0, i32_r1, run_bi, run_bi', i32_sub, decide_eq_true_eq, bi_rt, bi_em, bi_0, bi_1, i32_lt, i32_eq, iN_ne, iN_lt, iN_nlt, i32_ix, i32_in,  mm_aft_v, mm_aft_n, mm_aft_x, if_pos, if_neg, ite_true, ite_false, if_true, if_false, not_false_eq_true, not_true_eq_false]
  have hz := L 36 0 (B 45 p) (Nat.le_trans (cf_le _ _) hn) hw (fun c q => q)
  rw [Nat.zero_add] at hz
  exact hz
theorem sp_MallSides {K R C : Nat} (h : MB K R C I A B) (x1 : Int32) (w : Int64) : ∀ (f : Nat) (l : Int64) (o7 o8 : Option Value), cf (mb l) (bN K R C) ≤ f → (∀ c, mb l c = true → c < bN K R C) → (∀ c, mb l c = true → mb w c = true) → mm_run (mm_pr tb_X11_joins) (21, [some (.ref 39), some (.int x1), some (.long w), none, some (.long l), none, some (.int (i32 0)), o7, o8], [], (k + 64, e, (mm_RM r), I, J, A, B)) = some (.inl (some (.int (bi (alF (rcB K R C) (bSs K R C 1) (bSs K R C 2) w f l)))), (k + 64, e, (mm_RM r), I, J, A, B)) := by
  have hn := bN_le h.v
  intro f
  induction f with
  | zero =>
    intro l o7 o8 hc h1 h2
    have h0 : l = 0 := by
      apply Classical.byContradiction
      intro q
      have := cf_pos q h1
      omega
    rw [sg_X11_joins_21, if_pos h0, sg_X11_joins_95]
    simp (disch := omega) only [i32_l, iN_l, i32_add, i32_mul, i32_r0, i32_r1, run_bi, run_bi', i32_sub, decide_eq_true_eq, bi_rt, bi_em, bi_0, bi_1, i32_lt, i32_eq, iN_ne, iN_lt, iN_nlt, i32_ix, i32_in,  mm_aft_v, mm_aft_n, mm_aft_x, if_pos, if_neg, ite_true, ite_false, if_true, if_false, not_false_eq_true, not_true_eq_false]
    rfl
  | succ f ih =>
    intro l o7 o8 hc h1 h2
    rw [sg_X11_joins_21]
    by_cases h0 : l = 0
    · rw [if_pos h0, sg_X11_joins_95, h0, alF_0]
      simp (disch := omega) only [i32_l, iN_l, i32_add, i32_mul, i32_r0, i32_r1, run_bi, run_bi', i32_sub, decide_eq_true_eq, bi_rt, bi_em, bi_0, bi_1, i32_lt, i32_eq, iN_ne, iN_lt, iN_nlt, i32_ix, i32_in,  mm_aft_v, mm_aft_n, mm_aft_x, if_pos, if_neg, ite_true, ite_false, if_true, if_false, not_false_eq_true, not_true_eq_false]
      rfl
    · have d := cf_dec hn (bNb K R C) h0 h1 h2
      have ih' := fun o7 o8 => ih (l &&& (rcB K R C (l &&& (-l)) w ^^^ (-1))) o7 o8 (by unfold rcB; omega) (and_lt h1) (and_w h2)
      simp (disch := omega) only [i32_l, iN_l, i32_add, i32_mul, i32_r0, i32_r1, run_bi, run_bi', i32_sub, decide_eq_true_eq, bi_rt, bi_em, bi_0, bi_1, i32_lt, i32_eq, iN_ne, iN_lt, iN_nlt, i32_ix, i32_in,  mm_aft_v, mm_aft_n, mm_aft_x, if_pos, if_neg, ite_true, ite_false, if_true, if_false, not_false_eq_true, not_true_eq_false, h0]
      rw [sp_spreadsB k r e I J A B h _ _ (low_lt h0 h1), mm_aft_v, sg_X11_joins_44]
      simp (disch := omega) only [i32_l, iN_l, i32_add, i32_mul, i32_r0, i32_r1, run_bi, run_bi', i32_sub, decide_eq_true_eq, bi_rt, bi_em, bi_0, bi_1, i32_lt, i32_eq, iN_ne, iN_lt, iN_nlt, i32_ix, i32_in,  mm_aft_v, mm_aft_n, mm_aft_x, if_pos, if_neg, ite_true, ite_false, if_true, if_false, not_false_eq_true, not_true_eq_false]
      rw [h.sd 1 (by decide), h.sd 2 (by decide), alF_s _ _ _ _ _ h0]
      by_cases h3 : rcB K R C (l &&& (-l)) w &&& bSs K R C 1 = 0
      · rw [if_pos h3, if_pos h3, sg_X11_joins_78]
        simp only [i32_l]
        rw [sg_X11_joins_79]
        exact ih' _ _
      · rw [if_neg h3, if_neg h3]
        by_cases h4 : rcB K R C (l &&& (-l)) w &&& bSs K R C 2 = 0
        · rw [if_pos h4, if_pos h4, sg_X11_joins_78]
          simp only [i32_l]
          rw [sg_X11_joins_79]
          exact ih' _ _
        · rw [if_neg h4, if_neg h4, sg_X11_joins_79, sg_X11_joins_21]
          by_cases h5 : l &&& (rcB K R C (l &&& (-l)) w ^^^ (-1)) = 0
          · rw [if_pos h5, sg_X11_joins_95]
            simp (disch := omega) only [i32_l, iN_l, i32_add, i32_mul, i32_r0, i32_r1, run_bi, run_bi', i32_sub, decide_eq_true_eq, bi_rt, bi_em, bi_0, bi_1, i32_lt, i32_eq, iN_ne, iN_lt, iN_nlt, i32_ix, i32_in,  mm_aft_v, mm_aft_n, mm_aft_x, if_pos, if_neg, ite_true, ite_false, if_true, if_false, not_false_eq_true, not_true_eq_false]
            rfl
          · rw [if_neg h5, sg_X11_joins_95]
            simp (disch := omega) only [i32_l, iN_l, i32_add, i32_mul, i32_r0, i32_r1, run_bi, run_bi', i32_sub, decide_eq_true_eq, bi_rt, bi_em, bi_0, bi_1, i32_lt, i32_eq, iN_ne, iN_lt, iN_nlt, i32_ix, i32_in,  mm_aft_v, mm_aft_n, mm_aft_x, if_pos, if_neg, ite_true, ite_false, if_true, if_false, not_false_eq_true, not_true_eq_false]
            rfl
theorem sp_Mjoins {K R C : Nat} (h : MB K R C I A B) {p : Nat} (hp : p < 2) (w : Int64) : f_X11_joins [.ref 39, .int (i32 p), .long w] (k + 64, e, (mm_RM r), I, J, A, B) = some (.inl (some (.int (bi (jnB K R C p w)))), (k + 64, e, (mm_RM r), I, J, A, B)) := by
  have hk := bV_K h.v
  have hn := bN_le h.v
  have ld : ∀ {s : Nat}, s < 3 → mm_run (mm_pr tb_X11_joins) (167, [some (.ref 39), some (.int (i32 p)), some (.long w), none, none, none, none, none, none], [.int (i32 s)], (k + 64, e, (mm_RM r), I, J, A, B)) = some (.inl (some (.int (bi (ldB K R C s (s + 1) w)))), (k + 64, e, (mm_RM r), I, J, A, B)) := by
    intro s hs
    rw [sg_X11_joins_167]
    simp (disch := omega) only [i32_l, iN_l, i32_add, i32_mul, i32_r0, i32_r1, run_bi, run_bi', i32_sub, decide_eq_true_eq, bi_rt, bi_em, bi_0, bi_1, i32_lt, i32_eq, iN_ne, iN_lt, iN_nlt, i32_ix, i32_in,  mm_aft_v, mm_aft_n, mm_aft_x, if_pos, if_neg, ite_true, ite_false, if_true, if_false, not_false_eq_true, not_true_eq_false]
    rw [h.sd s (by omega), sp_spreadsB k r e I J A B h _ _ (fun c q _ => bSs_lt h.v q), mm_aft_v, sg_X11_joins_181]
    simp (disch := omega) only [i32_l, iN_l, i32_add, i32_mul, i32_r0, i32_r1, run_bi, run_bi', i32_sub, decide_eq_true_eq, bi_rt, bi_em, bi_0, bi_1, i32_lt, i32_eq, iN_ne, iN_lt, iN_nlt, i32_ix, i32_in,  mm_aft_v, mm_aft_n, mm_aft_x, if_pos, if_neg, ite_true, ite_false, if_true, if_false, not_false_eq_true, not_true_eq_false]
    rw [h.sd (s + 1) (by omega), sg_X11_joins_201]
    simp (disch := omega) only [i32_l, iN_l, i32_add, i32_mul, i32_r0, i32_r1, run_bi, run_bi', i32_sub, decide_eq_true_eq, bi_rt, bi_em, bi_0, bi_1, i32_lt, i32_eq, iN_ne, iN_lt, iN_nlt, i32_ix, i32_in,  mm_aft_v, mm_aft_n, mm_aft_x, if_pos, if_neg, ite_true, ite_false, if_true, if_false, not_false_eq_true, not_true_eq_false]
    rfl
  rw [en_X11_joins, sg_X11_joins_0, h.kind]
  unfold jnB
  have hP : p = 0 ∨ p = 1 := by omega
  have hK : K = 0 ∨ K = 1 ∨ K = 2 := by omega
  rcases hK with q | q | q
  · subst q
    rcases hP with q2 | q2
    · subst q2
      simp (disch := omega) only [i32_l, iN_l, i32_add, i32_mul, i32_r0, i32_r1, run_bi, run_bi', i32_sub, decide_eq_true_eq, bi_rt, bi_em, bi_0, bi_1, i32_lt, i32_eq, iN_ne, iN_lt, iN_nlt, i32_ix, i32_in,  mm_aft_v, mm_aft_n, mm_aft_x, if_pos, if_neg, ite_true, ite_false, if_true, if_false, not_false_eq_true, not_true_eq_false, sg_X11_joins_158]
      rw [ld (by decide)]
      rfl
    · subst q2
      simp (disch := omega) only [i32_l, iN_l, i32_add, i32_mul, i32_r0, i32_r1, run_bi, run_bi', i32_sub, decide_eq_true_eq, bi_rt, bi_em, bi_0, bi_1, i32_lt, i32_eq, iN_ne, iN_lt, iN_nlt, i32_ix, i32_in,  mm_aft_v, mm_aft_n, mm_aft_x, if_pos, if_neg, ite_true, ite_false, if_true, if_false, not_false_eq_true, not_true_eq_false, sg_X11_joins_158]
      rw [ld (by decide)]
      rfl
  · subst q
    simp (disch := omega) only [i32_l, iN_l, i32_add, i32_mul, i32_r0, i32_r1, run_bi, run_bi', i32_sub, decide_eq_true_eq, bi_rt, bi_em, bi_0, bi_1, i32_lt, i32_eq, iN_ne, iN_lt, iN_nlt, i32_ix, i32_in,  mm_aft_v, mm_aft_n, mm_aft_x, if_pos, if_neg, ite_true, ite_false, if_true, if_false, not_false_eq_true, not_true_eq_false]
    rw [h.sd 0 (by decide)]
    have hl : ∀ c, mb (w &&& bSs 1 R C 0) c = true → c < bN 1 R C := by
      intro c q
      rw [mb_and] at q
      exact bSs_lt h.v (Bool.and_eq_true_iff.1 q).2
    exact sp_MallSides k r e I J A B h (i32 p) w 36 _ _ _ (Nat.le_trans (cf_le _ _) hn) hl (fun c q => by
      rw [mb_and] at q
      exact (Bool.and_eq_true_iff.1 q).1)
  · subst q
    rcases hP with q2 | q2
    · subst q2
      simp (disch := omega) only [i32_l, iN_l, i32_add, i32_mul, i32_r0, i32_r1, run_bi, run_bi', i32_sub, decide_eq_true_eq, bi_rt, bi_em, bi_0, bi_1, i32_lt, i32_eq, iN_ne, iN_lt, iN_nlt, i32_ix, i32_in,  mm_aft_v, mm_aft_n, mm_aft_x, if_pos, if_neg, ite_true, ite_false, if_true, if_false, not_false_eq_true, not_true_eq_false, sg_X11_joins_158]
      rw [ld (by decide)]
      rfl
    · subst q2
      simp (disch := omega) only [i32_l, iN_l, i32_add, i32_mul, i32_r0, i32_r1, run_bi, run_bi', i32_sub, decide_eq_true_eq, bi_rt, bi_em, bi_0, bi_1, i32_lt, i32_eq, iN_ne, iN_lt, iN_nlt, i32_ix, i32_in,  mm_aft_v, mm_aft_n, mm_aft_x, if_pos, if_neg, ite_true, ite_false, if_true, if_false, not_false_eq_true, not_true_eq_false]
      rw [h.cells, sp_Mbit, mm_aft_v, sg_X11_joins_118]
      simp (disch := omega) only [i32_l, iN_l, i32_add, i32_mul, i32_r0, i32_r1, run_bi, run_bi', i32_sub, decide_eq_true_eq, bi_rt, bi_em, bi_0, bi_1, i32_lt, i32_eq, iN_ne, iN_lt, iN_nlt, i32_ix, i32_in,  mm_aft_v, mm_aft_n, mm_aft_x, if_pos, if_neg, ite_true, ite_false, if_true, if_false, not_false_eq_true, not_true_eq_false]
      rw [h.sd 0 (by decide), sp_spreadsB k r e I J A B h _ _ (fun c q _ => bSs_lt h.v q), mm_aft_v, sg_X11_joins_140]
      simp (disch := omega) only [i32_l, iN_l, i32_add, i32_mul, i32_r0, i32_r1, run_bi, run_bi', i32_sub, decide_eq_true_eq, bi_rt, bi_em, bi_0, bi_1, i32_lt, i32_eq, iN_ne, iN_lt, iN_nlt, i32_ix, i32_in,  mm_aft_v, mm_aft_n, mm_aft_x, if_pos, if_neg, ite_true, ite_false, if_true, if_false, not_false_eq_true, not_true_eq_false]
      rw [h.sd 1 (by decide), sg_X11_joins_157, if_pos (bi_ok _)]
      show some (Sum.inl (some (Value.int (bi (decide (rcB 2 R C (bSs 2 R C 0) ((mbit (bN 2 R C) - 1) &&& (w ^^^ (-1))) &&& bSs 2 R C 1 = 0))))), _) = some (Sum.inl (some (Value.int (bi (!(!decide (rcB 2 R C (bSs 2 R C 0) ((mbit (bN 2 R C) - 1) &&& (w ^^^ (-1))) &&& bSs 2 R C 1 = 0)))))), _)
      rw [Bool.not_not]
end
