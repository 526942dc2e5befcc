/-! leaves of the reference; what it spreads to -/
theorem sp_Min (S : mm_S) (x0 x1 x2 : Int32) : f_X11_in [.int x0, .int x1, .int x2] S = some (.inl (some (.int (bi (!decide (x0 < x1) && !decide (x2 < x0))))), S) := by
  rw [en_X11_in, sg_X11_in_0]
  by_cases h1 : x0 < x1
  · simp (disch := omega) only [i32_l, iN_l, i32_add, i32_mul, i32_r0, i32_r1, run_bi, run_bi', i32_sub, decide_eq_true_eq, bi_rt, bi_em, bi_0, bi_1, i32_lt, i32_eq, iN_ne, iN_lt, iN_nlt, i32_ix, i32_in,  mm_aft_v, mm_aft_n, mm_aft_x, if_pos, if_neg, ite_true, ite_false, if_true, if_false, not_false_eq_true, not_true_eq_false, h1, sg_X11_in_14, sg_X11_in_15, decide_true, Bool.not_true, Bool.false_and]; rfl
  · by_cases h2 : x2 < x0
    · simp (disch := omega) only [i32_l, iN_l, i32_add, i32_mul, i32_r0, i32_r1, run_bi, run_bi', i32_sub, decide_eq_true_eq, bi_rt, bi_em, bi_0, bi_1, i32_lt, i32_eq, iN_ne, iN_lt, iN_nlt, i32_ix, i32_in,  mm_aft_v, mm_aft_n, mm_aft_x, if_pos, if_neg, ite_true, ite_false, if_true, if_false, not_false_eq_true, not_true_eq_false, h1, h2, sg_X11_in_14, sg_X11_in_15, decide_true, decide_false, Bool.not_true, Bool.not_false, Bool.and_false]; rfl
    · simp (disch := omega) only [i32_l, iN_l, i32_add, i32_mul, i32_r0, i32_r1, run_bi, run_bi', i32_sub, decide_eq_true_eq, bi_rt, bi_em, bi_0, bi_1, i32_lt, i32_eq, iN_ne, iN_lt, iN_nlt, i32_ix, i32_in,  mm_aft_v, mm_aft_n, mm_aft_x, if_pos, if_neg, ite_true, ite_false, if_true, if_false, not_false_eq_true, not_true_eq_false, h1, h2, sg_X11_in_14, sg_X11_in_15, decide_true, decide_false, Bool.not_true, Bool.not_false, Bool.and_true]; rfl
theorem sp_Mbit (S : mm_S) (c : Nat) : f_X11_bit [.int (i32 c)] S = some (.inl (some (.long (mbit c))), S) := by
  rw [en_X11_bit, sg_X11_bit_0]; rfl
theorem sp_Mhas (S : mm_S) (x : Int64) {c : Nat} (hc : c < 64) : f_X11_has [.long x, .int (i32 c)] S = some (.inl (some (.int (bi (mb x c)))), S) := by
  rw [en_X11_has, sg_X11_has_0, mb_has _ _ hc]
  cases mb x c with
  | true => rw [if_pos rfl, sg_X11_has_15, if_pos (Or.inr rfl)]; rfl
  | false => rw [if_neg (by decide), sg_X11_has_15, if_pos (Or.inl rfl)]; rfl
theorem sp_Mthrown (k : Nat) (r : Nat → Nat → Value) (e : Nat) (I : Nat → Nat → Int32) (J : Nat → Nat → Int64) (A : Nat → Nat → Int32) (B : Nat → Nat → Int64) : f_X11_thrown [.ref 39] (k + 64, e, (mm_RM r), I, J, A, B) = some (.inl (some (.int (I 39 39))), (k + 64, e, (mm_RM r), I, J, A, B)) := by
  rw [en_X11_thrown, sg_X11_thrown_0]
theorem sp_Mfails (k : Nat) (r : Nat → Nat → Value) (e : Nat) (I : Nat → Nat → Int32) (J : Nat → Nat → Int64) (A : Nat → Nat → Int32) (B : Nat → Nat → Int64) (x1 : Int32) : f_X11_fails [.ref 39, .int x1] (k + 64, e, (mm_RM r), I, J, A, B) = some (.inl (some (.int (i32 0))), (k + 64, e, (mm_RM r), mm_up I 39 39 x1, J, A, B)) := by
  rw [en_X11_fails, sg_X11_fails_0]; rfl
theorem sp_Masks (k : Nat) (r : Nat → Nat → Value) (e : Nat) (I : Nat → Nat → Int32) (J : Nat → Nat → Int64) (A : Nat → Nat → Int32) (B : Nat → Nat → Int64) (b : Bool) : f_X11_asks [.ref 39, .int (bi b)] (k + 64, e, (mm_RM r), I, J, A, B) = some (.inl (some (.int (bi b))), (k + 64, e, (mm_RM r), mm_up I 39 39 (bi (!b)), J, A, B)) := by
  rw [en_X11_asks, sg_X11_asks_0]
  cases b with
  | true => simp (disch := omega) only [i32_l, iN_l, i32_add, i32_mul, i32_r0, i32_r1, run_bi, run_bi', i32_sub, decide_eq_true_eq, bi_rt, bi_em, bi_0, bi_1, i32_lt, i32_eq, iN_ne, iN_lt, iN_nlt, i32_ix, i32_in,  mm_aft_v, mm_aft_n, mm_aft_x, if_pos, if_neg, ite_true, ite_false, if_true, if_false, not_false_eq_true, not_true_eq_false, sg_X11_asks_10]; rfl
  | false => simp (disch := omega) only [i32_l, iN_l, i32_add, i32_mul, i32_r0, i32_r1, run_bi, run_bi', i32_sub, decide_eq_true_eq, bi_rt, bi_em, bi_0, bi_1, i32_lt, i32_eq, iN_ne, iN_lt, iN_nlt, i32_ix, i32_in,  mm_aft_v, mm_aft_n, mm_aft_x, if_pos, if_neg, ite_true, ite_false, if_true, if_false, not_false_eq_true, not_true_eq_false, sg_X11_asks_10]; rfl
theorem cf_ncnt (n : Nat) : ∀ k, ncnt n k = cf (fun c => n.testBit c) k := by
  intro k
  induction k with
  | zero => rfl
  | succ k ih => unfold ncnt cf; rw [ih]
theorem mcnt_cf (x : Int64) : mcnt x = cf (mb x) 64 := by
  unfold mcnt
  rw [cf_ncnt]
  exact cf_congr (fun c _ => (mb_nat x c).symm)
theorem cf_stop {p : Nat → Bool} {n m : Nat} (h : ∀ c, n ≤ c → p c = false) (hm : n ≤ m) : cf p m = cf p n := by
  induction m with
  | zero => have : n = 0 := by omega
            subst this; rfl
  | succ m ih =>
    by_cases q : n = m + 1
    · subst q; rfl
    · show cf p m + (p m).toNat = _
      rw [ih (by omega), h m (by omega)]; rfl
theorem cf_lt2 {p q : Nat → Bool} {n k : Nat} (hk : k < n) (h0 : p k = false) (h1 : q k = true) (h : ∀ c, p c = true → q c = true) : cf p n < cf q n := by
  have mono : ∀ m, cf p m ≤ cf q m := by
    intro m
    induction m with
    | zero => exact Nat.le_refl _
    | succ m ih =>
      unfold cf
      have : (p m).toNat ≤ (q m).toNat := by
        cases e : p m with
        | false => exact Nat.zero_le _
        | true => rw [h m e]; exact Nat.le_refl _
      omega
  induction n with
  | zero => omega
  | succ n ih =>
    unfold cf
    by_cases e : k = n
    · subst e; rw [h0, h1]; have := mono k; show _ + 0 < _ + 1; omega
    · have := ih (by omega)
      have : (p n).toNat ≤ (q n).toNat := by
        cases e : p n with
        | false => exact Nat.zero_le _
        | true => rw [h n e]; exact Nat.le_refl _
      omega
theorem sp_Mones (S : mm_S) (x : Int64) : f_X11_ones [.long x] S = some (.inl (some (.int (i32 (cf (mb x) 36)))), S) := by
  have L : ∀ d k, k + d = 36 → mm_run (mm_pr tb_X11_ones) (4, [some (.long x), none, some (.int (i32 (cf (mb x) k))), some (.int (i32 k))], [], S) = some (.inl (some (.int (i32 (cf (mb x) 36)))), S) := by
    intro d
    induction d with
    | zero =>
      intro k h
      rw [sg_X11_ones_4]
      simp (disch := omega) only [i32_l, iN_l, i32_add, i32_mul, i32_r0, i32_r1, run_bi, run_bi', i32_sub, decide_eq_true_eq, bi_rt, bi_em, bi_0, bi_1, i32_lt, i32_eq, iN_ne, iN_lt, iN_nlt, i32_ix, i32_in,  mm_aft_v, mm_aft_n, mm_aft_x, if_pos, if_neg, ite_true, ite_false, if_true, if_false, not_false_eq_true, not_true_eq_false]
      rw [show k = 36 from h]
    | succ d ih =>
      intro k h
      rw [sg_X11_ones_4]
      simp (disch := omega) only [i32_l, iN_l, i32_add, i32_mul, i32_r0, i32_r1, run_bi, run_bi', i32_sub, decide_eq_true_eq, bi_rt, bi_em, bi_0, bi_1, i32_lt, i32_eq, iN_ne, iN_lt, iN_nlt, i32_ix, i32_in,  mm_aft_v, mm_aft_n, mm_aft_x, if_pos, if_neg, ite_true, ite_false, if_true, if_false, not_false_eq_true, not_true_eq_false, sp_Mhas, sg_X11_ones_16, sg_X11_ones_24]
      have := ih (k + 1) (by omega)
      unfold cf at this
      by_cases q : mb x k = true
      · simp (disch := omega) only [i32_l, iN_l, i32_add, i32_mul, i32_r0, i32_r1, run_bi, run_bi', i32_sub, decide_eq_true_eq, bi_rt, bi_em, bi_0, bi_1, i32_lt, i32_eq, iN_ne, iN_lt, iN_nlt, i32_ix, i32_in,  mm_aft_v, mm_aft_n, mm_aft_x, if_pos, if_neg, ite_true, ite_false, if_true, if_false, not_false_eq_true, not_true_eq_false, q]; rw [q] at this; exact this
      · simp (disch := omega) only [i32_l, iN_l, i32_add, i32_mul, i32_r0, i32_r1, run_bi, run_bi', i32_sub, decide_eq_true_eq, bi_rt, bi_em, bi_0, bi_1, i32_lt, i32_eq, iN_ne, iN_lt, iN_nlt, i32_ix, i32_in,  mm_aft_v, mm_aft_n, mm_aft_x, if_pos, if_neg, ite_true, ite_false, if_true, if_false, not_false_eq_true, not_true_eq_false, q]; rw [bool_f q] at this; exact this
  rw [en_X11_ones, sg_X11_ones_0]
  exact L 36 0 rfl
theorem sp_Mlowest (S : mm_S) (x : Int64) (h : ∀ c, 36 ≤ c → mb x c = false) : f_X11_lowest [.long x] S = some (.inl (some (.int (if x = 0 then iN else i32 (mlo x)))), S) := by
  have L : ∀ d k, k + d = 36 → (∀ j, j < k → mb x j = false) → mm_run (mm_pr tb_X11_lowest) (2, [some (.long x), none, some (.int (i32 k))], [], S) = some (.inl (some (.int (if x = 0 then iN else i32 (mlo x)))), S) := by
    intro d
    induction d with
    | zero =>
      intro k hk hj
      have : x = 0 := mb_ext (fun c hc => by
        rw [mb_zero]
        rcases Nat.lt_or_ge c 36 with q | q
        · exact hj c (by omega)
        · exact h c q)
      rw [sg_X11_lowest_2]
      simp (disch := omega) only [i32_l, iN_l, i32_add, i32_mul, i32_r0, i32_r1, run_bi, run_bi', i32_sub, decide_eq_true_eq, bi_rt, bi_em, bi_0, bi_1, i32_lt, i32_eq, iN_ne, iN_lt, iN_nlt, i32_ix, i32_in,  mm_aft_v, mm_aft_n, mm_aft_x, if_pos, if_neg, ite_true, ite_false, if_true, if_false, not_false_eq_true, not_true_eq_false, sg_X11_lowest_22, sg_X11_lowest_33, this]
    | succ d ih =>
      intro k hk hj
      rw [sg_X11_lowest_2]
      simp (disch := omega) only [i32_l, iN_l, i32_add, i32_mul, i32_r0, i32_r1, run_bi, run_bi', i32_sub, decide_eq_true_eq, bi_rt, bi_em, bi_0, bi_1, i32_lt, i32_eq, iN_ne, iN_lt, iN_nlt, i32_ix, i32_in,  mm_aft_v, mm_aft_n, mm_aft_x, if_pos, if_neg, ite_true, ite_false, if_true, if_false, not_false_eq_true, not_true_eq_false, sp_Mhas, sg_X11_lowest_13]
      by_cases q : mb x k = true
      · simp (disch := omega) only [i32_l, iN_l, i32_add, i32_mul, i32_r0, i32_r1, run_bi, run_bi', i32_sub, decide_eq_true_eq, bi_rt, bi_em, bi_0, bi_1, i32_lt, i32_eq, iN_ne, iN_lt, iN_nlt, i32_ix, i32_in,  mm_aft_v, mm_aft_n, mm_aft_x, if_pos, if_neg, ite_true, ite_false, if_true, if_false, not_false_eq_true, not_true_eq_false, q, sg_X11_lowest_22, sg_X11_lowest_33, mne_of q, mlo_of q hj]
      · simp (disch := omega) only [i32_l, iN_l, i32_add, i32_mul, i32_r0, i32_r1, run_bi, run_bi', i32_sub, decide_eq_true_eq, bi_rt, bi_em, bi_0, bi_1, i32_lt, i32_eq, iN_ne, iN_lt, iN_nlt, i32_ix, i32_in,  mm_aft_v, mm_aft_n, mm_aft_x, if_pos, if_neg, ite_true, ite_false, if_true, if_false, not_false_eq_true, not_true_eq_false, q]
        refine ih (k + 1) (by omega) (fun j hj2 => ?_)
        by_cases e : j = k
        · subst e; exact bool_f q
        · exact hj j (by omega)
  rw [en_X11_lowest, sg_X11_lowest_0]
  exact L 36 0 rfl (fun j hj => by omega)
theorem sp_MisPlayer (S : mm_S) (x : Int32) : f_X11_isPlayer [.int x] S = some (.inl (some (.int (bi (!decide (x < 0) && !decide (1 < x))))), S) := by
  rw [en_X11_isPlayer, sg_X11_isPlayer_0, sp_Min, mm_aft_v, sg_X11_isPlayer_6]
  simp (disch := omega) only [i32_l, iN_l, i32_add, i32_mul, i32_r0, i32_r1, run_bi, run_bi', i32_sub, decide_eq_true_eq, bi_rt, bi_em, bi_0, bi_1, i32_lt, i32_eq, iN_ne, iN_lt, iN_nlt, i32_ix, i32_in,  mm_aft_v, mm_aft_n, mm_aft_x, if_pos, if_neg, ite_true, ite_false, if_true, if_false, not_false_eq_true, not_true_eq_false]
theorem sp_MisCell (k : Nat) (r : Nat → Nat → Value) (e : Nat) (I : Nat → Nat → Int32) (J : Nat → Nat → Int64) (A : Nat → Nat → Int32) (B : Nat → Nat → Int64) (x : Int32) : f_X11_isCell [.ref 39, .int x] (k + 64, e, (mm_RM r), I, J, A, B) = some (.inl (some (.int (bi (!decide (x < 0) && !decide (I 39 3 - 1 < x))))), (k + 64, e, (mm_RM r), I, J, A, B)) := by
  rw [en_X11_isCell, sg_X11_isCell_0, sp_Min, mm_aft_v, sg_X11_isCell_11]
  simp (disch := omega) only [i32_l, iN_l, i32_add, i32_mul, i32_r0, i32_r1, run_bi, run_bi', i32_sub, decide_eq_true_eq, bi_rt, bi_em, bi_0, bi_1, i32_lt, i32_eq, iN_ne, iN_lt, iN_nlt, i32_ix, i32_in,  mm_aft_v, mm_aft_n, mm_aft_x, if_pos, if_neg, ite_true, ite_false, if_true, if_false, not_false_eq_true, not_true_eq_false]
abbrev MD (n : Nat) (I : Nat → Nat → Int32) (B : Nat → Nat → Int64) : Prop := (n ≤ 36) ∧ (I 39 3 = i32 n) ∧ (∀ c d, c < n → mb (B 43 c) d = true → d < n)
theorem MD.le {n : Nat} {I : Nat → Nat → Int32} {B : Nat → Nat → Int64} (h : MD n I B) : n ≤ 36 := h.1
theorem MD.cells {n : Nat} {I : Nat → Nat → Int32} {B : Nat → Nat → Int64} (h : MD n I B) : I 39 3 = i32 n := h.2.1
theorem MD.nb {n : Nat} {I : Nat → Nat → Int32} {B : Nat → Nat → Int64} (h : MD n I B) : ∀ c d, c < n → mb (B 43 c) d = true → d < n := h.2.2
theorem sp_spreads_i (k : Nat) (r : Nat → Nat → Value) (e : Nat) (I : Nat → Nat → Int32) (J : Nat → Nat → Int64) (A : Nat → Nat → Int32) (B : Nat → Nat → Int64) (x1 x3 x5 : Int64) (n : Nat) (h : MD n I B) (y7 : Int32) : ∀ (d i : Nat) (x8 : Int64), i + d = n → ∃ x8' : Int64, (∀ c, mb x8' c = true ↔ (mb x8 c = true ∨ ∃ j, i ≤ j ∧ j < n ∧ mb x5 j = true ∧ mb (B 43 j) c = true ∧ mb x3 c = true)) ∧ mm_run (mm_pr tb_X11_spreads) (31, [some (.ref 39), some (.long x1), none, some (.long x3), none, some (.long x5), none, some (.int y7), some (.long x8), none, some (.int (i32 i))], [], (k + 64, e, (mm_RM r), I, J, A, B)) = mm_run (mm_pr tb_X11_spreads) (31, [some (.ref 39), some (.long x1), none, some (.long x3), none, some (.long x5), none, some (.int y7), some (.long x8'), none, some (.int (i32 n))], [], (k + 64, e, (mm_RM r), I, J, A, B)) := by
  have hn := h.le
  intro d
  induction d with
  | zero =>
    intro i x8 hi
    have : i = n := by omega
    subst this
    refine ⟨x8, fun c => ⟨Or.inl, ?_⟩, rfl⟩
    rintro (q | ⟨j, h1, h2, _⟩)
    · exact q
    · omega
  | succ d ih =>
    intro i x8 hi
    by_cases q : mb x5 i = true
    · obtain ⟨x8', h1, h2⟩ := ih (i + 1) (x8 ||| (B 43 i &&& x3)) (by omega)
      refine ⟨x8', fun c => ?_, ?_⟩
      · rw [h1 c, mb_or, mb_and]
        constructor
        · rintro (a | ⟨j, a1, a2, a3⟩)
          · rcases Bool.or_eq_true_iff.1 a with b | b
            · exact Or.inl b
            · have := Bool.and_eq_true_iff.1 b
              exact Or.inr ⟨i, Nat.le_refl _, by omega, q, this.1, this.2⟩
          · exact Or.inr ⟨j, by omega, a2, a3⟩
        · rintro (a | ⟨j, a1, a2, a3, a4, a5⟩)
          · exact Or.inl (by rw [a]; rfl)
          · by_cases e : j = i
            · subst e; exact Or.inl (by rw [a4, a5]; simp)
            · exact Or.inr ⟨j, by omega, a2, a3, a4, a5⟩
      · rw [sg_X11_spreads_31, h.cells]
        simp (disch := omega) only [i32_l, iN_l, i32_add, i32_mul, i32_r0, i32_r1, run_bi, run_bi', i32_sub, decide_eq_true_eq, bi_rt, bi_em, bi_0, bi_1, i32_lt, i32_eq, iN_ne, iN_lt, iN_nlt, i32_ix, i32_in,  mm_aft_v, mm_aft_n, mm_aft_x, if_pos, if_neg, ite_true, ite_false, if_true, if_false, not_false_eq_true, not_true_eq_false, sp_Mhas, sg_X11_spreads_49, q, sg_X11_spreads_65]
        exact h2
    · obtain ⟨x8', h1, h2⟩ := ih (i + 1) (x8 ||| 0) (by omega)
      refine ⟨x8', fun c => ?_, ?_⟩
      · rw [h1 c, mb_or, mb_zero]
        constructor
        · rintro (a | ⟨j, a1, a2, a3⟩)
          · exact Or.inl (by simpa using a)
          · exact Or.inr ⟨j, by omega, a2, a3⟩
        · rintro (a | ⟨j, a1, a2, a3, a4, a5⟩)
          · exact Or.inl (by rw [a]; rfl)
          · by_cases e : j = i
            · subst e; exact absurd a3 q
            · exact Or.inr ⟨j, by omega, a2, a3, a4, a5⟩
      · rw [sg_X11_spreads_31, h.cells]
        simp (disch := omega) only [i32_l, iN_l, i32_add, i32_mul, i32_r0, i32_r1, run_bi, run_bi', i32_sub, decide_eq_true_eq, bi_rt, bi_em, bi_0, bi_1, i32_lt, i32_eq, iN_ne, iN_lt, iN_nlt, i32_ix, i32_in,  mm_aft_v, mm_aft_n, mm_aft_x, if_pos, if_neg, ite_true, ite_false, if_true, if_false, not_false_eq_true, not_true_eq_false, sp_Mhas, sg_X11_spreads_49, q, sg_X11_spreads_65]
        exact h2
theorem sp_spreads (k : Nat) (r : Nat → Nat → Value) (e : Nat) (I : Nat → Nat → Int32) (J : Nat → Nat → Int64) (A : Nat → Nat → Int32) (B : Nat → Nat → Int64) (x1 x3 : Int64) (n : Nat) (h : MD n I B) (hb : ∀ c, mb x1 c = true → mb x3 c = true → c < n) : f_X11_spreads [.ref 39, .long x1, .long x3] (k + 64, e, (mm_RM r), I, J, A, B) = some (.inl (some (.long (rch n (B 43) x1 x3))), (k + 64, e, (mm_RM r), I, J, A, B)) := by
  have hn := h.le
  have L : ∀ (m : Nat) (x5 : Int64) (o8 o9 o10 : Option Value), n - cf (mb x5) n ≤ m → (∀ c, mb x5 c = true → Conn n (B 43) x1 x3 c) → (∀ c, mb x1 c = true → mb x3 c = true → mb x5 c = true) → mm_run (mm_pr tb_X11_spreads) (19, [some (.ref 39), some (.long x1), none, some (.long x3), none, some (.long x5), none, some (.int (i32 1)), o8, o9, o10], [], (k + 64, e, (mm_RM r), I, J, A, B)) = some (.inl (some (.long (rch n (B 43) x1 x3))), (k + 64, e, (mm_RM r), I, J, A, B)) := by
    intro m
    induction m with
    | zero =>
      intro x5 o8 o9 o10 hm h1 h2
      have full : ∀ c, c < n → mb x5 c = true := by
        intro c hc
        cases q : mb x5 c with
        | true => rfl
        | false => have := cf_lt hc q; omega
      obtain ⟨x8', g1, g2⟩ := sp_spreads_i k r e I J A B x1 x3 x5 n h (i32 1) n 0 x5 (by omega)
      rw [sg_X11_spreads_19]
      simp (disch := omega) only [i32_l, iN_l, i32_add, i32_mul, i32_r0, i32_r1, run_bi, run_bi', i32_sub, decide_eq_true_eq, bi_rt, bi_em, bi_0, bi_1, i32_lt, i32_eq, iN_ne, iN_lt, iN_nlt, i32_ix, i32_in,  mm_aft_v, mm_aft_n, mm_aft_x, if_pos, if_neg, ite_true, ite_false, if_true, if_false, not_false_eq_true, not_true_eq_false]
      rw [g2, sg_X11_spreads_31, h.cells]
      have e8 : x8' = x5 := by
        apply mb_ext
        intro c _
        by_cases q : mb x5 c = true
        · rw [q, (g1 c).2 (Or.inl q)]
        · rw [bool_f q]
          apply bool_f
          intro q2
          rcases (g1 c).1 q2 with a | ⟨j, _, a2, a3, a4, a5⟩
          · exact q a
          · exact q (full c (h.nb j c a2 a4))
      simp (disch := omega) only [i32_l, iN_l, i32_add, i32_mul, i32_r0, i32_r1, run_bi, run_bi', i32_sub, decide_eq_true_eq, bi_rt, bi_em, bi_0, bi_1, i32_lt, i32_eq, iN_ne, iN_lt, iN_nlt, i32_ix, i32_in,  mm_aft_v, mm_aft_n, mm_aft_x, if_pos, if_neg, ite_true, ite_false, if_true, if_false, not_false_eq_true, not_true_eq_false, e8, sg_X11_spreads_87, sg_X11_spreads_19]
      rw [rch_eq (by omega) (x := x5) (fun c => ⟨h1 c, fun q => full c q.lt⟩)]
    | succ m ih =>
      intro x5 o8 o9 o10 hm h1 h2
      obtain ⟨x8', g1, g2⟩ := sp_spreads_i k r e I J A B x1 x3 x5 n h (i32 1) n 0 x5 (by omega)
      rw [sg_X11_spreads_19]
      simp (disch := omega) only [i32_l, iN_l, i32_add, i32_mul, i32_r0, i32_r1, run_bi, run_bi', i32_sub, decide_eq_true_eq, bi_rt, bi_em, bi_0, bi_1, i32_lt, i32_eq, iN_ne, iN_lt, iN_nlt, i32_ix, i32_in,  mm_aft_v, mm_aft_n, mm_aft_x, if_pos, if_neg, ite_true, ite_false, if_true, if_false, not_false_eq_true, not_true_eq_false]
      rw [g2, sg_X11_spreads_31, h.cells]
      by_cases e8 : x8' = x5
      · simp (disch := omega) only [i32_l, iN_l, i32_add, i32_mul, i32_r0, i32_r1, run_bi, run_bi', i32_sub, decide_eq_true_eq, bi_rt, bi_em, bi_0, bi_1, i32_lt, i32_eq, iN_ne, iN_lt, iN_nlt, i32_ix, i32_in,  mm_aft_v, mm_aft_n, mm_aft_x, if_pos, if_neg, ite_true, ite_false, if_true, if_false, not_false_eq_true, not_true_eq_false, e8, sg_X11_spreads_87, sg_X11_spreads_19]
        rw [rch_eq (by omega) (x := x5) (fun c => ⟨h1 c, fun q => ?_⟩)]
        exact q.ind (fun _ hn ha hw => h2 _ ha hw) (fun c2 d2 hn hc ih2 hb2 hw => by
          rw [← e8]
          exact (g1 _).2 (Or.inr ⟨_, Nat.zero_le _, hc.lt, ih2, hb2, hw⟩))
      · simp (disch := omega) only [i32_l, iN_l, i32_add, i32_mul, i32_r0, i32_r1, run_bi, run_bi', i32_sub, decide_eq_true_eq, bi_rt, bi_em, bi_0, bi_1, i32_lt, i32_eq, iN_ne, iN_lt, iN_nlt, i32_ix, i32_in,  mm_aft_v, mm_aft_n, mm_aft_x, if_pos, if_neg, ite_true, ite_false, if_true, if_false, not_false_eq_true, not_true_eq_false, e8, sg_X11_spreads_87]
        refine ih x8' _ _ _ ?_ ?_ ?_
        · have mono : ∀ c, mb x5 c = true → mb x8' c = true := fun c q => (g1 c).2 (Or.inl q)
          have ex : ∃ c, mb x5 c = false ∧ mb x8' c = true := by
            apply Classical.byContradiction
            intro hno
            apply e8
            apply mb_ext
            intro c _
            cases q : mb x5 c with
            | true => exact mono c q
            | false =>
              apply bool_f
              intro q2
              exact hno ⟨c, q, q2⟩
          obtain ⟨c, c1, c2⟩ := ex
          have hc : c < n := by
            rcases (g1 c).1 c2 with a | ⟨j, _, a2, a3, a4, a5⟩
            · rw [a] at c1; cases c1
            · exact h.nb j c a2 a4
          have := cf_lt2 hc c1 c2 mono
          have := cf_le (mb x8') n
          omega
        · intro c q
          rcases (g1 c).1 q with a | ⟨j, _, a2, a3, a4, a5⟩
          · exact h1 c a
          · exact .step (h.nb j c a2 a4) (h1 j a3) a4 a5
        · intro c a b
          exact (g1 c).2 (Or.inl (h2 c a b))
  have hm : ∀ c, mb (x1 &&& x3) c = true ↔ (mb x1 c = true ∧ mb x3 c = true) := by
    intro c; rw [mb_and]; simp
  rw [en_X11_spreads, sg_X11_spreads_0]
  by_cases h0 : x1 &&& x3 = 0
  · simp (disch := omega) only [i32_l, iN_l, i32_add, i32_mul, i32_r0, i32_r1, run_bi, run_bi', i32_sub, decide_eq_true_eq, bi_rt, bi_em, bi_0, bi_1, i32_lt, i32_eq, iN_ne, iN_lt, iN_nlt, i32_ix, i32_in,  mm_aft_v, mm_aft_n, mm_aft_x, if_pos, if_neg, ite_true, ite_false, if_true, if_false, not_false_eq_true, not_true_eq_false, h0, sg_X11_spreads_17, sg_X11_spreads_19]
    have e0 : (0 : Int64) = rch n (B 43) x1 x3 := by
      apply rch_eq (by omega)
      intro c
      constructor
      · intro q; rw [mb_zero] at q; cases q
      · intro q
        rw [← h0]
        exact q.ind (P := fun c => mb (x1 &&& x3) c = true) (fun _ hn ha hw => (hm _).2 ⟨ha, hw⟩) (fun c2 d2 hn hc ih2 hb2 hw => by rw [h0, mb_zero] at ih2; cases ih2)
    rw [← e0]
  · simp (disch := omega) only [i32_l, iN_l, i32_add, i32_mul, i32_r0, i32_r1, run_bi, run_bi', i32_sub, decide_eq_true_eq, bi_rt, bi_em, bi_0, bi_1, i32_lt, i32_eq, iN_ne, iN_lt, iN_nlt, i32_ix, i32_in,  mm_aft_v, mm_aft_n, mm_aft_x, if_pos, if_neg, ite_true, ite_false, if_true, if_false, not_false_eq_true, not_true_eq_false, h0, sg_X11_spreads_17]
    refine L n _ _ _ _ (by omega) ?_ ?_
    · intro c q
      have := (hm c).1 q
      exact .base (hb c this.1 this.2) this.1 this.2
    · intro c a b
      exact (hm c).2 ⟨a, b⟩
