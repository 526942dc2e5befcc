/-! the clocks of the class -/
theorem i32_div {a b : Nat} (ha : a < 2147483648) (hb : b < 2147483648) (h0 : 0 < b) : i32 a / i32 b = i32 (a / b) := by
  have h : a / b ≤ a := Nat.div_le_self a b
  apply Int32.toInt_inj.1
  rw [Int32.toInt_div, i32_toInt ha, i32_toInt hb, i32_toInt (by omega)]
  have t : (a : Int).tdiv (b : Int) = ((a / b : Nat) : Int) := rfl
  rw [t]
  generalize a / b = d at h ⊢
  rw [Int.bmod_eq_of_le (by omega) (by omega)]
theorem i32_min {a b : Nat} (ha : a < 2147483648) (hb : b < 2147483648) : (if i32 b < i32 a then i32 b else i32 a) = i32 (min a b) := by
  by_cases h : b < a
  · rw [if_pos ((i32_lt hb ha).2 h), Nat.min_eq_right (by omega)]
  · rw [if_neg (fun q => h ((i32_lt hb ha).1 q)), Nat.min_eq_left (by omega)]
theorem i32_max {a b : Nat} (ha : a < 2147483648) (hb : b < 2147483648) : (if i32 a < i32 b then i32 b else i32 a) = i32 (max a b) := by
  by_cases h : a < b
  · rw [if_pos ((i32_lt ha hb).2 h), Nat.max_eq_right (by omega)]
  · rw [if_neg (fun q => h ((i32_lt ha hb).1 q)), Nat.max_eq_left (by omega)]
abbrev TC (ea : Nat) (tk : Bool) (se pe us : Nat → Nat) (lo : Nat) (I : Nat → Nat → Int32) (A : Nat → Nat → Int32) : Prop := I 30 3 = i32 ea ∧ I 30 4 = bi tk ∧ I 30 5 = (if lo = 0 then iN else i32 (lo - 1)) ∧ (∀ p, p < 2 → A 31 p = i32 (se p) ∧ A 32 p = i32 (pe p) ∧ A 33 p = i32 (us p))
abbrev TM (ea : Nat) (tk : Bool) (se pe us : Nat → Nat) (lo : Nat) (I : Nat → Nat → Int32) (A : Nat → Nat → Int32) : Prop := (tk = true → I 39 16 = i32 ea) ∧ I 39 15 = bi tk ∧ I 39 13 = (if lo = 0 then iN else i32 (2 - lo)) ∧ (∀ p, p < 2 → A 47 p = i32 (se p) ∧ A 48 p = i32 (pe p) ∧ A 49 p = i32 (us p))
abbrev TB (ea : Nat) (tk : Bool) (se pe us : Nat → Nat) (lo : Nat) : Prop := lo ≤ 2 ∧ (tk = true → 1 ≤ ea ∧ ea ≤ 60) ∧ (∀ p, p < 2 → se p ≤ 3600 ∧ pe p ≤ 9 ∧ us p ≤ 660 ∧ (lo = 0 → us p ≤ 60) ∧ (0 < us p → se p = 0))
def upN (f : Nat → Nat) (p v : Nat) : Nat → Nat := fun q => if q = p then v else f q
section
variable (e : Nat) (I : Nat → Nat → Int32) (J : Nat → Nat → Int64) (A : Nat → Nat → Int32) (B : Nat → Nat → Int64)
theorem sp_start (x1 x2 x3 : Int32) : f_X8_start [.ref 30, .int x1, .int x2, .int x3] (79, e, mm_R0, I, J, A, B) = some (.inl none, (79, e, mm_R0, mm_up (mm_up I 30 3 x3) 30 4 (i32 1), J, mm_put (mm_put (mm_put A 31 (fun j => if j < 2 then x1 else A 31 j)) 32 (fun j => if j < 2 then x2 else A 32 j)) 33 (fun j => if j < 2 then i32 0 else A 33 j), B)) := by
  rw [en_X8_start, sg_X8_start_0, sp_J7_fill_53178_31, mm_aft_n, sg_X8_start_8, sp_J7_fill_53178_32, mm_aft_n, sg_X8_start_16]
  simp only [i32_l]
  rw [sp_J7_fill_53178_33, mm_aft_n, sg_X8_start_24]
  rw [show (fun j => if j < 2 then x2 else mm_put A 31 (fun j => if j < 2 then x1 else A 31 j) 32 j) = (fun j => if j < 2 then x2 else A 32 j) from by funext j; rw [mm_put_ne _ _ _ _ _ (by decide)]]
  rw [show (fun j => if j < 2 then i32 0 else mm_put (mm_put A 31 (fun j => if j < 2 then x1 else A 31 j)) 32 (fun j => if j < 2 then x2 else A 32 j) 33 j) = (fun j => if j < 2 then i32 0 else A 33 j) from by funext j; rw [mm_put_ne _ _ _ _ _ (by decide), mm_put_ne _ _ _ _ _ (by decide)]]
  rfl
theorem sp_giveBack {p : Nat} (hp : p < 2) : f_X8_giveBack [.ref 30, .int (i32 p)] (79, e, mm_R0, I, J, A, B) = some (.inl none, (79, e, mm_R0, I, J, mm_up A 33 p (i32 0), B)) := by
  have h : (decide (i32 p = 0 ∨ i32 p = 1)) = true := by
    have : p = 0 ∨ p = 1 := by omega
    rcases this with q | q <;> (subst q; decide)
  rw [en_X8_giveBack, sg_X8_giveBack_0, sp_isPlayer, mm_aft_v, sg_X8_giveBack_4, h]
  simp (disch := omega) only [i32_l, iN_l, i32_add, i32_mul, i32_r0, i32_r1, run_bi, run_bi', i32_sub, decide_eq_true_eq, bi_rt, bi_em, bi_0, bi_1, i32_lt, i32_eq, iN_ne, iN_lt, iN_nlt, i32_ix, i32_in,  mm_aft_v, mm_aft_n, mm_aft_x, if_pos, if_neg, ite_true, ite_false, if_true, if_false, not_false_eq_true, not_true_eq_false, sg_X8_giveBack_14]
theorem sp_shown {ea : Nat} {tk : Bool} {se pe us : Nat → Nat} {lo : Nat} (h : TC ea tk se pe us lo I A) {p w : Nat} (hp : p < 2) (hw : w < 3) : f_X8_shown [.ref 30, .int (i32 p), .int (i32 w)] (79, e, mm_R0, I, J, A, B) = some (.inl (some (.int (if w = 0 then i32 (se p) else if w = 1 then i32 (pe p) else i32 (us p)))), (79, e, mm_R0, I, J, A, B)) := by
  have hd : (decide (i32 p = 0 ∨ i32 p = 1)) = true := by
    have : p = 0 ∨ p = 1 := by omega
    rcases this with q | q <;> (subst q; decide)
  obtain ⟨h1, h2, h3, h4⟩ := h
  have g := h4 p hp
  rw [en_X8_shown, sg_X8_shown_0, sp_isPlayer, mm_aft_v, sg_X8_shown_4, hd]
  have : w = 0 ∨ w = 1 ∨ w = 2 := by omega
  rcases this with q | q | q
  · subst q; simp (disch := omega) only [i32_l, iN_l, i32_add, i32_mul, i32_r0, i32_r1, run_bi, run_bi', i32_sub, decide_eq_true_eq, bi_rt, bi_em, bi_0, bi_1, i32_lt, i32_eq, iN_ne, iN_lt, iN_nlt, i32_ix, i32_in,  mm_aft_v, mm_aft_n, mm_aft_x, if_pos, if_neg, ite_true, ite_false, if_true, if_false, not_false_eq_true, not_true_eq_false, sg_X8_shown_42]; rw [g.1]
  · subst q; simp (disch := omega) only [i32_l, iN_l, i32_add, i32_mul, i32_r0, i32_r1, run_bi, run_bi', i32_sub, decide_eq_true_eq, bi_rt, bi_em, bi_0, bi_1, i32_lt, i32_eq, iN_ne, iN_lt, iN_nlt, i32_ix, i32_in,  mm_aft_v, mm_aft_n, mm_aft_x, if_pos, if_neg, ite_true, ite_false, if_true, if_false, not_false_eq_true, not_true_eq_false, sg_X8_shown_42]; rw [g.2.1]
  · subst q; simp (disch := omega) only [i32_l, iN_l, i32_add, i32_mul, i32_r0, i32_r1, run_bi, run_bi', i32_sub, decide_eq_true_eq, bi_rt, bi_em, bi_0, bi_1, i32_lt, i32_eq, iN_ne, iN_lt, iN_nlt, i32_ix, i32_in,  mm_aft_v, mm_aft_n, mm_aft_x, if_pos, if_neg, ite_true, ite_false, if_true, if_false, not_false_eq_true, not_true_eq_false, sg_X8_shown_42]; rw [g.2.2]
theorem sp_spend {ea : Nat} {se pe us : Nat → Nat} (h : TC ea true se pe us 0 I A) (hb : TB ea true se pe us 0) {p t : Nat} (hp : p < 2) (ht : 1 ≤ t) (ht2 : t ≤ 600) : ∃ I' A', f_X8_spend [.ref 30, .int (i32 p), .int (i32 t)] (79, e, mm_R0, I, J, A, B) = some (.inl none, (79, e, mm_R0, I', J, A', B)) ∧ TC ea true (upN se p (se p - min t (se p))) (upN pe p (pe p - min (pe p) ((us p + t - min t (se p)) / ea))) (upN us p (us p + t - min t (se p) - min (pe p) ((us p + t - min t (se p)) / ea) * ea)) (if pe p - min (pe p) ((us p + t - min t (se p)) / ea) = 0 ∧ 0 < us p + t - min t (se p) then p + 1 else 0) I' A' ∧ (∀ i, i ≠ 30 → I' i = I i) ∧ (∀ i, i ≠ 31 → i ≠ 32 → i ≠ 33 → A' i = A i) := by
  have hd : (decide (i32 p = 0 ∨ i32 p = 1)) = true := by
    have : p = 0 ∨ p = 1 := by omega
    rcases this with q | q <;> (subst q; decide)
  obtain ⟨h1, h2, h3, h4⟩ := h
  obtain ⟨b1, b2, b3⟩ := hb
  have g := h4 p hp
  have b := b3 p hp
  have be := b2 rfl
  have l1 : min t (se p) ≤ t := Nat.min_le_left _ _
  have l2 : min t (se p) ≤ se p := Nat.min_le_right _ _
  have l3 : (us p + t - min t (se p)) / ea ≤ us p + t - min t (se p) := Nat.div_le_self _ _
  have l4 : (us p + t - min t (se p)) / ea * ea ≤ us p + t - min t (se p) := Nat.div_mul_le_self _ _
  have l5 : min (pe p) ((us p + t - min t (se p)) / ea) ≤ pe p := Nat.min_le_left _ _
  have l6 : min (pe p) ((us p + t - min t (se p)) / ea) * ea ≤ us p + t - min t (se p) := Nat.le_trans (Nat.mul_le_mul_right _ (Nat.min_le_right _ _)) l4
  have bu : us p ≤ 660 := b.2.2.1
  rw [en_X8_spend, sg_X8_spend_0, sp_isPlayer, mm_aft_v, sg_X8_spend_4, hd, h1]
  simp (disch := omega) only [i32_l, iN_l, i32_add, i32_mul, i32_r0, i32_r1, run_bi, run_bi', i32_sub, decide_eq_true_eq, bi_rt, bi_em, bi_0, bi_1, i32_lt, i32_eq, iN_ne, iN_lt, iN_nlt, i32_ix, i32_in,  mm_aft_v, mm_aft_n, mm_aft_x, if_pos, if_neg, ite_true, ite_false, if_true, if_false, not_false_eq_true, not_true_eq_false]
  rw [sp_min, g.1, i32_min (by omega) (by omega), mm_aft_v, sg_X8_spend_26, h1]
  simp (disch := omega) only [i32_l, iN_l, i32_add, i32_mul, i32_r0, i32_r1, run_bi, run_bi', i32_sub, decide_eq_true_eq, bi_rt, bi_em, bi_0, bi_1, i32_lt, i32_eq, iN_ne, iN_lt, iN_nlt, i32_ix, i32_in,  mm_aft_v, mm_aft_n, mm_aft_x, if_pos, if_neg, ite_true, ite_false, if_true, if_false, not_false_eq_true, not_true_eq_false]
  rw [g.2.2, g.2.1]
  simp (disch := omega) only [i32_l, iN_l, i32_add, i32_mul, i32_r0, i32_r1, run_bi, run_bi', i32_sub, decide_eq_true_eq, bi_rt, bi_em, bi_0, bi_1, i32_lt, i32_eq, iN_ne, iN_lt, iN_nlt, i32_ix, i32_in,  mm_aft_v, mm_aft_n, mm_aft_x, if_pos, if_neg, ite_true, ite_false, if_true, if_false, not_false_eq_true, not_true_eq_false]
  rw [i32_div (by omega) (by omega) (by omega), sp_min]
  have l7 : (us p + t - min t (se p)) / ea < 2147483648 := by omega
  rw [i32_min (by omega) l7, mm_aft_v, sg_X8_spend_55, h1]
  generalize hw : min (pe p) ((us p + t - min t (se p)) / ea) = w at l5 l6 ⊢
  generalize ho : min t (se p) = o at l1 l2 l3 l4 l6 l7 ⊢
  generalize hm : us p + t - o = mo at l3 l4 l6 l7 ⊢
  have hmo : mo ≤ 1300 := by omega
  have key : ∀ lo' : Nat, ∀ I' : Nat → Nat → Int32, I' 30 3 = i32 ea → I' 30 4 = bi true → I' 30 5 = (if lo' = 0 then iN else i32 (lo' - 1)) → TC ea true (upN se p (se p - o)) (upN pe p (pe p - w)) (upN us p (mo - w * ea)) lo' I' (mm_up (mm_up (mm_up A 31 p (i32 (se p - o))) 32 p (i32 (pe p - w))) 33 p (i32 (mo - w * ea))) := by
    intro lo' I' q1 q2 q3
    refine ⟨q1, q2, q3, fun p' hp' => ?_⟩
    have g' := h4 p' hp'
    unfold upN
    by_cases q : p' = p
    · subst q
      rw [if_pos rfl, if_pos rfl, if_pos rfl, mm_up_ne1 _ _ _ _ _ _ (by decide), mm_up_ne1 _ _ _ _ _ _ (by decide), mm_up_eq, mm_up_ne1 _ _ _ _ _ _ (by decide), mm_up_eq, mm_up_eq]
      exact ⟨rfl, rfl, rfl⟩
    · rw [if_neg q, if_neg q, if_neg q, mm_up_ne1 _ _ _ _ _ _ (by decide), mm_up_ne1 _ _ _ _ _ _ (by decide), mm_up_ne2 _ _ _ _ _ _ q, mm_up_ne1 _ _ _ _ _ _ (by decide), mm_up_ne2 _ _ _ _ _ _ q, mm_up_ne1 _ _ _ _ _ _ (by decide), mm_up_ne2 _ _ _ _ _ _ q, mm_up_ne1 _ _ _ _ _ _ (by decide)]
      exact g'
  have fr : ∀ i, i ≠ 31 → i ≠ 32 → i ≠ 33 → mm_up (mm_up (mm_up A 31 p (i32 (se p - o))) 32 p (i32 (pe p - w))) 33 p (i32 (mo - w * ea)) i = A i := by
    intro i r1 r2 r3
    rw [mm_up_row _ _ _ _ _ r3, mm_up_row _ _ _ _ _ r2, mm_up_row _ _ _ _ _ r1]
  have e1 : i32 (se p) - i32 o = i32 (se p - o) := i32_sub l2
  have e2 : i32 (pe p) - i32 w = i32 (pe p - w) := i32_sub l5
  have e3 : i32 mo - i32 w * i32 ea = i32 (mo - w * ea) := by rw [i32_mul, i32_sub l6]
  rw [i32_ix (by omega)]
  simp only [i32_l]
  have cin : (0 ≤ (i32 p).toInt ∧ (i32 p).toInt < 2) := (i32_in (by omega)).2 (by omega)
  rw [if_pos cin, if_pos cin, if_pos cin, if_pos cin, if_pos cin, if_pos cin, g.1, g.2.1, e1, e2, e3]
  by_cases c1 : pe p - w = 0
  · by_cases c2 : 0 < mo
    · rw [if_pos (show pe p - w = 0 ∧ 0 < mo from ⟨c1, c2⟩)]
      rw [if_pos (by rw [mm_up_eq, c1]), if_pos ((i32_lt (by decide) (by omega)).2 c2), sg_X8_spend_113]
      refine ⟨_, _, rfl, key (p + 1) _ ?_ ?_ ?_, ?_, fr⟩
      · rw [mm_up_ne2 _ _ _ _ _ _ (by decide)]; exact h1
      · rw [mm_up_ne2 _ _ _ _ _ _ (by decide)]; exact h2
      · rw [mm_up_eq, if_neg (by omega)]; rfl
      · intro i q; rw [mm_up_row _ _ _ _ _ q]
    · rw [if_neg (fun q : pe p - w = 0 ∧ 0 < mo => c2 q.2)]
      rw [if_pos (by rw [mm_up_eq, c1]), if_neg (fun q => c2 ((i32_lt (by decide) (by omega)).1 q)), sg_X8_spend_113]
      exact ⟨_, _, rfl, key 0 _ h1 h2 h3, fun _ _ => rfl, fr⟩
  · rw [if_neg (fun q : pe p - w = 0 ∧ 0 < mo => c1 q.1)]
    rw [if_neg (by rw [mm_up_eq, i32_eq (by omega) (by decide)]; exact c1), sg_X8_spend_113]
    exact ⟨_, _, rfl, key 0 _ h1 h2 h3, fun _ _ => rfl, fr⟩
end
