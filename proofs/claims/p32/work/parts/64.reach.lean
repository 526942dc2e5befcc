/-! what the class reaches -/
abbrev BD (n : Nat) (J : Nat → Nat → Int64) (B : Nat → Nat → Int64) : Prop := (n ≤ 36) ∧ (∀ c, mb (J 1 10) c = decide (c < n)) ∧ (∀ c d, c < n → mb (B 5 c) d = true → d < n)
theorem BD.le {n : Nat} {J : Nat → Nat → Int64} {B : Nat → Nat → Int64} (h : BD n J B) : n ≤ 36 := h.1
theorem BD.all {n : Nat} {J : Nat → Nat → Int64} {B : Nat → Nat → Int64} (h : BD n J B) : ∀ c, mb (J 1 10) c = decide (c < n) := h.2.1
theorem BD.nb {n : Nat} {J : Nat → Nat → Int64} {B : Nat → Nat → Int64} (h : BD n J B) : ∀ c d, c < n → mb (B 5 c) d = true → d < n := h.2.2
theorem reach_fresh (x w s : Int64) (c : Nat) : mb ((x &&& w) &&& (s ^^^ (-1 : Int64))) c = true ↔ (mb x c = true ∧ mb w c = true ∧ mb s c = false) := by
  rcases Nat.lt_or_ge c 64 with h | h
  · rw [mb_and, mb_and, mb_cpl _ _ h]; simp [and_assoc]
  · rw [mb_hi _ _ h, mb_hi _ _ h]; simp
theorem sp_reach_l (k : Nat) (r : Nat → Nat → Value) (e : Nat) (I : Nat → Nat → Int32) (J : Nat → Nat → Int64) (A : Nat → Nat → Int32) (B : Nat → Nat → Int64) (x1 x3 : Int64) (n : Nat) (h : BD n J B) (d : Nat) : ∀ (i : Nat) (seen edge : Int64) (o10 o11 o12 : Option Value), i + d = 36 → ReachI n (B 5) x1 x3 seen edge → cf (dn seen edge) n = i → mm_run (mm_pr tb_X1_reach) (17, [some (.ref 1), some (.long x1), none, some (.long x3), none, some (.long seen), none, some (.long edge), none, some (.int (i32 i)), o10, o11, o12], [], (k + 7, e, (mm_RB r), I, J, A, B)) = some (.inl (some (.long (rch n (B 5) x1 x3))), (k + 7, e, (mm_RB r), I, J, A, B)) := by
  have hn := h.le
  induction d with
  | zero =>
    intro i seen edge o10 o11 o12 hi hR hc
    have := hR.fin (by omega) (hR.full (by omega))
    rw [sg_X1_reach_17]
    simp (disch := omega) only [i32_l, iN_l, i32_add, i32_mul, i32_r0, i32_r1, run_bi, run_bi', i32_sub, decide_eq_true_eq, bi_rt, bi_em, bi_0, bi_1, i32_lt, i32_eq, iN_ne, iN_lt, iN_nlt, i32_ix, i32_in,  mm_aft_v, mm_aft_n, mm_aft_x, if_pos, if_neg, ite_true, ite_false, if_true, if_false, not_false_eq_true, not_true_eq_false, sg_X1_reach_98]
    rw [this]
  | succ d ih =>
    intro i seen edge o10 o11 o12 hi hR hc
    rw [sg_X1_reach_17]
    by_cases h0 : edge = 0
    · simp (disch := omega) only [i32_l, iN_l, i32_add, i32_mul, i32_r0, i32_r1, run_bi, run_bi', i32_sub, decide_eq_true_eq, bi_rt, bi_em, bi_0, bi_1, i32_lt, i32_eq, iN_ne, iN_lt, iN_nlt, i32_ix, i32_in,  mm_aft_v, mm_aft_n, mm_aft_x, if_pos, if_neg, ite_true, ite_false, if_true, if_false, not_false_eq_true, not_true_eq_false, sg_X1_reach_98, h0]
      rw [← hR.fin (by omega) h0]
    · have hl := (hR.s1 _ (hR.s2 _ (mlo_mb h0))).lt
      simp (disch := omega) only [i32_l, iN_l, i32_add, i32_mul, i32_r0, i32_r1, run_bi, run_bi', i32_sub, decide_eq_true_eq, bi_rt, bi_em, bi_0, bi_1, i32_lt, i32_eq, iN_ne, iN_lt, iN_nlt, i32_ix, i32_in,  mm_aft_v, mm_aft_n, mm_aft_x, if_pos, if_neg, ite_true, ite_false, if_true, if_false, not_false_eq_true, not_true_eq_false, h0, sp_bitCount, mcnt_low, sg_X1_reach_42, sg_X1_reach_71]
      have st := hR.step (by omega) h.nb h0 (reach_fresh (B 5 (mlo edge)) x3 seen)
      exact ih (i + 1) _ _ _ _ _ (by omega) st.1 (by rw [st.2, hc])
theorem cf_zero {p : Nat → Bool} (n : Nat) (h : ∀ c, p c = false) : cf p n = 0 := by
  induction n with
  | zero => rfl
  | succ n ih => unfold cf; rw [ih, h n]; rfl
theorem sp_reach (k : Nat) (r : Nat → Nat → Value) (e : Nat) (I : Nat → Nat → Int32) (J : Nat → Nat → Int64) (A : Nat → Nat → Int32) (B : Nat → Nat → Int64) (x1 x3 : Int64) (n : Nat) (h : BD n J B) : f_X1_reach [.ref 1, .long x1, .long x3] (k + 7, e, (mm_RB r), I, J, A, B) = some (.inl (some (.long (rch n (B 5) x1 x3))), (k + 7, e, (mm_RB r), I, J, A, B)) := by
  have hn := h.le
  rw [en_X1_reach, sg_X1_reach_0]
  simp only [i32_l]
  have hm : ∀ c, mb (x1 &&& x3 &&& J 1 10) c = true ↔ (mb x1 c = true ∧ mb x3 c = true ∧ c < n) := by
    intro c
    rw [mb_and, mb_and, h.all]
    simp [and_assoc]
  refine sp_reach_l k r e I J A B x1 x3 n h 36 0 _ _ _ _ _ (by omega) ⟨?_, ?_, ?_, ?_⟩ ?_
  · intro c hc
    have q := (hm c).1 hc
    exact .base q.2.2 q.1 q.2.1
  · intro c hc; exact hc
  · intro c h1 h2 h3
    exact (hm c).2 ⟨h2, h3, h1⟩
  · intro c d h1 h2
    rw [h1] at h2; cases h2
  · apply cf_zero
    intro c
    unfold dn
    cases mb (x1 &&& x3 &&& J 1 10) c <;> rfl

