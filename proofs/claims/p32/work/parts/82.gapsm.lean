/-! gaps at the machine: the class's two objects, the reference's rows -/
def tern : Nat → Nat → Nat
  | 0, _ => 0
  | f + 1, a => 3 * tern f (a / 2) + a % 2
def ter (a : Nat) : Nat := tern 9 a
def cd (a b : Nat) : Nat := ter a + 2 * ter b
theorem and0_mod {a b : Nat} (h : a &&& b = 0) : a % 2 + 2 * (b % 2) ≤ 2 := by
  have := Nat.and_mod_two_eq_one (a := a) (b := b)
  rw [h] at this
  omega
theorem and0_div {a b : Nat} (h : a &&& b = 0) : a / 2 &&& b / 2 = 0 := by
  rw [← Nat.and_div_two, h]
theorem tern_lt : ∀ f a b, a &&& b = 0 → tern f a + 2 * tern f b < 3 ^ f := by
  intro f
  induction f with
  | zero => intro a b _; show 0 + 2 * 0 < 3 ^ 0; decide
  | succ f ih =>
    intro a b h
    have h1 := and0_mod h
    have h2 := ih _ _ (and0_div h)
    show 3 * tern f (a / 2) + a % 2 + 2 * (3 * tern f (b / 2) + b % 2) < 3 ^ (f + 1)
    rw [Nat.pow_succ]
    omega
theorem tern_inj : ∀ f a b a' b', a < 2 ^ f → b < 2 ^ f → a' < 2 ^ f → b' < 2 ^ f → a &&& b = 0 → a' &&& b' = 0 → tern f a + 2 * tern f b = tern f a' + 2 * tern f b' → a = a' ∧ b = b' := by
  intro f
  induction f with
  | zero => intro a b a' b' h1 h2 h3 h4 _ _ _; simp only [Nat.pow_zero] at h1 h2 h3 h4; omega
  | succ f ih =>
    intro a b a' b' h1 h2 h3 h4 hd hd' he
    have m1 := and0_mod hd
    have m2 := and0_mod hd'
    rw [Nat.pow_succ] at h1 h2 h3 h4
    have he2 : 3 * tern f (a / 2) + a % 2 + 2 * (3 * tern f (b / 2) + b % 2) = 3 * tern f (a' / 2) + a' % 2 + 2 * (3 * tern f (b' / 2) + b' % 2) := he
    have r := ih (a / 2) (b / 2) (a' / 2) (b' / 2) (by omega) (by omega) (by omega) (by omega) (and0_div hd) (and0_div hd') (by omega)
    rw [r.1, r.2] at he2
    omega
theorem cd_lt {a b : Nat} (h : a &&& b = 0) : cd a b < 19683 := tern_lt 9 a b h
theorem cd_inj {a b a' b' : Nat} (h1 : a < 512) (h2 : b < 512) (h3 : a' < 512) (h4 : b' < 512) (hd : a &&& b = 0) (hd' : a' &&& b' = 0) (he : cd a b = cd a' b') : a = a' ∧ b = b' := tern_inj 9 a b a' b' h1 h2 h3 h4 hd hd' he
abbrev GX (E : Int64) (o w : Nat) (I : Nat → Nat → Int32) (A : Nat → Nat → Int32) : Prop := gn E ≤ 9 ∧ I o 2 = i32 (gn E) ∧ (∀ k, k < gn E → A w k = i32 (gc E k))
section
variable (e : Nat) (I : Nat → Nat → Int32) (J : Nat → Nat → Int64) (A : Nat → Nat → Int32) (B : Nat → Nat → Int64)
theorem sp_take_10 {E : Int64} (hE : gn E ≤ 9) : ∃ A', f_X2_take [.ref 10, .long E] (79, e, mm_R0, I, J, A, B) = some (.inl none, (79, e, mm_R0, mm_up I 10 2 (i32 (gn E)), J, A', B)) ∧ (∀ k, k < gn E → A' 11 k = i32 (gc E k)) ∧ (∀ i, i ≠ 11 → A' i = A i) := by
  have L : ∀ (d c : Nat) (A : Nat → Nat → Int32), c + d = 36 → (∀ k, k < cf (mb E) c → A 11 k = i32 (gc E k)) → ∃ A', mm_run (mm_pr tb_X2_take) (7, [some (.ref 10), some (.long E), none, some (.int (i32 c))], [], (79, e, mm_R0, mm_up I 10 2 (i32 (cf (mb E) c)), J, A, B)) = some (.inl none, (79, e, mm_R0, mm_up I 10 2 (i32 (gn E)), J, A', B)) ∧ (∀ k, k < gn E → A' 11 k = i32 (gc E k)) ∧ (∀ i, i ≠ 11 → A' i = A i) := by
    intro d
    induction d with
    | zero =>
      intro c A hc h
      have : c = 36 := by omega
      subst this
      refine ⟨A, ?_, h, fun _ _ => rfl⟩
      rw [sg_X2_take_10_7]
      simp (disch := omega) only [i32_l, iN_l, i32_add, i32_mul, i32_r0, i32_r1, run_bi, run_bi', i32_sub, decide_eq_true_eq, bi_rt, bi_em, bi_0, bi_1, i32_lt, i32_eq, iN_ne, iN_lt, iN_nlt, i32_ix, i32_in,  mm_aft_v, mm_aft_n, mm_aft_x, if_pos, if_neg, ite_true, ite_false, if_true, if_false, not_false_eq_true, not_true_eq_false, sg_X2_take_10_56]
    | succ d ih =>
      intro c A hc h
      have m1 : cf (mb E) c ≤ gn E := cf_mono (by omega)
      rw [sg_X2_take_10_7, mm_up_eq]
      by_cases q9 : cf (mb E) c = 9
      · have : gn E = 9 := by omega
        refine ⟨A, ?_, fun k hk => h k (by omega), fun _ _ => rfl⟩
        simp (disch := omega) only [i32_l, iN_l, i32_add, i32_mul, i32_r0, i32_r1, run_bi, run_bi', i32_sub, decide_eq_true_eq, bi_rt, bi_em, bi_0, bi_1, i32_lt, i32_eq, iN_ne, iN_lt, iN_nlt, i32_ix, i32_in,  mm_aft_v, mm_aft_n, mm_aft_x, if_pos, if_neg, ite_true, ite_false, if_true, if_false, not_false_eq_true, not_true_eq_false, q9, this, sg_X2_take_10_56]
      · by_cases q : mb E c = true
        · obtain ⟨A', a1, a2, a3⟩ := ih (c + 1) (mm_up A 11 (cf (mb E) c) (i32 c)) (by omega) (fun k hk => by
            rw [cf_s q] at hk
            by_cases e1 : k = cf (mb E) c
            · subst e1; rw [mm_up_eq, (gc_of (by omega) q).2]
            · rw [mm_up_ne2 _ _ _ _ _ _ e1]; exact h k (by omega))
          refine ⟨A', ?_, a2, fun i hi => by rw [a3 i hi, mm_up_row _ _ _ _ _ hi]⟩
          rw [← a1]
          simp (disch := omega) only [i32_l, iN_l, i32_add, i32_mul, i32_r0, i32_r1, run_bi, run_bi', i32_sub, decide_eq_true_eq, bi_rt, bi_em, bi_0, bi_1, i32_lt, i32_eq, iN_ne, iN_lt, iN_nlt, i32_ix, i32_in,  mm_aft_v, mm_aft_n, mm_aft_x, if_pos, if_neg, ite_true, ite_false, if_true, if_false, not_false_eq_true, not_true_eq_false, sp_has, q, sg_X2_take_10_27, mm_up_eq, mm_up_up, sg_X2_take_10_50, cf_s q]
        · obtain ⟨A', a1, a2, a3⟩ := ih (c + 1) A (by omega) (fun k hk => by
            rw [cf_s0 (bool_f q)] at hk; exact h k hk)
          refine ⟨A', ?_, a2, a3⟩
          rw [← a1]
          simp (disch := omega) only [i32_l, iN_l, i32_add, i32_mul, i32_r0, i32_r1, run_bi, run_bi', i32_sub, decide_eq_true_eq, bi_rt, bi_em, bi_0, bi_1, i32_lt, i32_eq, iN_ne, iN_lt, iN_nlt, i32_ix, i32_in,  mm_aft_v, mm_aft_n, mm_aft_x, if_pos, if_neg, ite_true, ite_false, if_true, if_false, not_false_eq_true, not_true_eq_false, sp_has, bool_f q, sg_X2_take_10_27, sg_X2_take_10_50, cf_s0 (bool_f q), Bool.false_eq_true]
  rw [en_X2_take_10, sg_X2_take_10_0]
  exact L 36 0 A rfl (fun k hk => absurd hk (Nat.not_lt_zero _))
theorem sp_spread_10 {E : Int64} (h : GX E 10 11 I A) {a : Nat} (ha : a < 2147483648) : f_X2_spread [.ref 10, .int (i32 a)] (79, e, mm_R0, I, J, A, B) = some (.inl (some (.long (spr E a (gn E)))), (79, e, mm_R0, I, J, A, B)) := by
  obtain ⟨h0, h1, h2⟩ := h
  have L : ∀ d k, k + d = gn E → mm_run (mm_pr tb_X2_spread) (5, [some (.ref 10), some (.int (i32 a)), some (.long (spr E a k)), none, some (.int (i32 k))], [], (79, e, mm_R0, I, J, A, B)) = some (.inl (some (.long (spr E a (gn E)))), (79, e, mm_R0, I, J, A, B)) := by
    intro d
    induction d with
    | zero =>
      intro k hk
      rw [sg_X2_spread_10_5, h1]
      have : k = gn E := by omega
      subst this
      simp (disch := omega) only [i32_l, iN_l, i32_add, i32_mul, i32_r0, i32_r1, run_bi, run_bi', i32_sub, decide_eq_true_eq, bi_rt, bi_em, bi_0, bi_1, i32_lt, i32_eq, iN_ne, iN_lt, iN_nlt, i32_ix, i32_in,  mm_aft_v, mm_aft_n, mm_aft_x, if_pos, if_neg, ite_true, ite_false, if_true, if_false, not_false_eq_true, not_true_eq_false, sg_X2_spread_10_53]
    | succ d ih =>
      intro k hk
      rw [← ih (k + 1) (by omega), sg_X2_spread_10_5, h1]
      have un : spr E a (k + 1) = spr E a k ||| (if a.testBit k = true then mbit (gc E k) else 0) := rfl
      rw [un]
      simp (disch := omega) only [i32_l, iN_l, i32_add, i32_mul, i32_r0, i32_r1, run_bi, run_bi', i32_sub, decide_eq_true_eq, bi_rt, bi_em, bi_0, bi_1, i32_lt, i32_eq, iN_ne, iN_lt, iN_nlt, i32_ix, i32_in,  mm_aft_v, mm_aft_n, mm_aft_x, if_pos, if_neg, ite_true, ite_false, if_true, if_false, not_false_eq_true, not_true_eq_false, sp_has, mb_i32 ha, sg_X2_spread_10_29]
      by_cases q : a.testBit k = true
      · simp (disch := omega) only [i32_l, iN_l, i32_add, i32_mul, i32_r0, i32_r1, run_bi, run_bi', i32_sub, decide_eq_true_eq, bi_rt, bi_em, bi_0, bi_1, i32_lt, i32_eq, iN_ne, iN_lt, iN_nlt, i32_ix, i32_in,  mm_aft_v, mm_aft_n, mm_aft_x, if_pos, if_neg, ite_true, ite_false, if_true, if_false, not_false_eq_true, not_true_eq_false, q, h2 k (by omega), sg_X2_spread_10_45]
        rfl
      · simp (disch := omega) only [i32_l, iN_l, i32_add, i32_mul, i32_r0, i32_r1, run_bi, run_bi', i32_sub, decide_eq_true_eq, bi_rt, bi_em, bi_0, bi_1, i32_lt, i32_eq, iN_ne, iN_lt, iN_nlt, i32_ix, i32_in,  mm_aft_v, mm_aft_n, mm_aft_x, if_pos, if_neg, ite_true, ite_false, if_true, if_false, not_false_eq_true, not_true_eq_false, bool_f q, Bool.false_eq_true, sg_X2_spread_10_45]
  rw [en_X2_spread_10, sg_X2_spread_10_0]
  exact L (gn E) 0 (by omega)
theorem sp_full_10 {E : Int64} (h : GX E 10 11 I A) : f_X2_full [.ref 10] (79, e, mm_R0, I, J, A, B) = some (.inl (some (.int (i32 (2 ^ gn E - 1)))), (79, e, mm_R0, I, J, A, B)) := by
  obtain ⟨h0, h1, h2⟩ := h
  have p := Nat.one_le_two_pow (n := gn E)
  rw [en_X2_full_10, sg_X2_full_10_0, h1]
  simp only [i32_l]
  rw [i32_shl (by omega), i32_sub p]
theorem sp_pair_10 (hT : ∀ a, a < 512 → A 12 a = i32 (ter a)) {a b : Nat} (ha : a < 512) (hb : b < 512) (hd : a &&& b = 0) : f_X2_pair [.ref 10, .int (i32 a), .int (i32 b)] (79, e, mm_R0, I, J, A, B) = some (.inl (some (.int (i32 (cd a b)))), (79, e, mm_R0, I, J, A, B)) := by
  rw [en_X2_pair_10, sg_X2_pair_10_0]
  simp (disch := omega) only [i32_l, iN_l, i32_add, i32_mul, i32_r0, i32_r1, run_bi, run_bi', i32_sub, decide_eq_true_eq, bi_rt, bi_em, bi_0, bi_1, i32_lt, i32_eq, iN_ne, iN_lt, iN_nlt, i32_ix, i32_in,  mm_aft_v, mm_aft_n, mm_aft_x, if_pos, if_neg, ite_true, ite_false, if_true, if_false, not_false_eq_true, not_true_eq_false, i32_and, hd, hT a ha, hT b hb]
  rfl
theorem sp_take_16 {E : Int64} (hE : gn E ≤ 9) : ∃ A', f_X2_take [.ref 16, .long E] (79, e, mm_R0, I, J, A, B) = some (.inl none, (79, e, mm_R0, mm_up I 16 2 (i32 (gn E)), J, A', B)) ∧ (∀ k, k < gn E → A' 17 k = i32 (gc E k)) ∧ (∀ i, i ≠ 17 → A' i = A i) := by
  have L : ∀ (d c : Nat) (A : Nat → Nat → Int32), c + d = 36 → (∀ k, k < cf (mb E) c → A 17 k = i32 (gc E k)) → ∃ A', mm_run (mm_pr tb_X2_take) (7, [some (.ref 16), some (.long E), none, some (.int (i32 c))], [], (79, e, mm_R0, mm_up I 16 2 (i32 (cf (mb E) c)), J, A, B)) = some (.inl none, (79, e, mm_R0, mm_up I 16 2 (i32 (gn E)), J, A', B)) ∧ (∀ k, k < gn E → A' 17 k = i32 (gc E k)) ∧ (∀ i, i ≠ 17 → A' i = A i) := by
    intro d
    induction d with
    | zero =>
      intro c A hc h
      have : c = 36 := by omega
      subst this
      refine ⟨A, ?_, h, fun _ _ => rfl⟩
      rw [sg_X2_take_16_7]
      simp (disch := omega) only [i32_l, iN_l, i32_add, i32_mul, i32_r0, i32_r1, run_bi, run_bi', i32_sub, decide_eq_true_eq, bi_rt, bi_em, bi_0, bi_1, i32_lt, i32_eq, iN_ne, iN_lt, iN_nlt, i32_ix, i32_in,  mm_aft_v, mm_aft_n, mm_aft_x, if_pos, if_neg, ite_true, ite_false, if_true, if_false, not_false_eq_true, not_true_eq_false, sg_X2_take_16_56]
    | succ d ih =>
      intro c A hc h
      have m1 : cf (mb E) c ≤ gn E := cf_mono (by omega)
      rw [sg_X2_take_16_7, mm_up_eq]
      by_cases q9 : cf (mb E) c = 9
      · have : gn E = 9 := by omega
        refine ⟨A, ?_, fun k hk => h k (by omega), fun _ _ => rfl⟩
        simp (disch := omega) only [i32_l, iN_l, i32_add, i32_mul, i32_r0, i32_r1, run_bi, run_bi', i32_sub, decide_eq_true_eq, bi_rt, bi_em, bi_0, bi_1, i32_lt, i32_eq, iN_ne, iN_lt, iN_nlt, i32_ix, i32_in,  mm_aft_v, mm_aft_n, mm_aft_x, if_pos, if_neg, ite_true, ite_false, if_true, if_false, not_false_eq_true, not_true_eq_false, q9, this, sg_X2_take_16_56]
      · by_cases q : mb E c = true
        · obtain ⟨A', a1, a2, a3⟩ := ih (c + 1) (mm_up A 17 (cf (mb E) c) (i32 c)) (by omega) (fun k hk => by
            rw [cf_s q] at hk
            by_cases e1 : k = cf (mb E) c
            · subst e1; rw [mm_up_eq, (gc_of (by omega) q).2]
            · rw [mm_up_ne2 _ _ _ _ _ _ e1]; exact h k (by omega))
          refine ⟨A', ?_, a2, fun i hi => by rw [a3 i hi, mm_up_row _ _ _ _ _ hi]⟩
          rw [← a1]
          simp (disch := omega) only [i32_l, iN_l, i32_add, i32_mul, i32_r0, i32_r1, run_bi, run_bi', i32_sub, decide_eq_true_eq, bi_rt, bi_em, bi_0, bi_1, i32_lt, i32_eq, iN_ne, iN_lt, iN_nlt, i32_ix, i32_in,  mm_aft_v, mm_aft_n, mm_aft_x, if_pos, if_neg, ite_true, ite_false, if_true, if_false, not_false_eq_true, not_true_eq_false, sp_has, q, sg_X2_take_16_27, mm_up_eq, mm_up_up, sg_X2_take_16_50, cf_s q]
        · obtain ⟨A', a1, a2, a3⟩ := ih (c + 1) A (by omega) (fun k hk => by
            rw [cf_s0 (bool_f q)] at hk; exact h k hk)
          refine ⟨A', ?_, a2, a3⟩
          rw [← a1]
          simp (disch := omega) only [i32_l, iN_l, i32_add, i32_mul, i32_r0, i32_r1, run_bi, run_bi', i32_sub, decide_eq_true_eq, bi_rt, bi_em, bi_0, bi_1, i32_lt, i32_eq, iN_ne, iN_lt, iN_nlt, i32_ix, i32_in,  mm_aft_v, mm_aft_n, mm_aft_x, if_pos, if_neg, ite_true, ite_false, if_true, if_false, not_false_eq_true, not_true_eq_false, sp_has, bool_f q, sg_X2_take_16_27, sg_X2_take_16_50, cf_s0 (bool_f q), Bool.false_eq_true]
  rw [en_X2_take_16, sg_X2_take_16_0]
  exact L 36 0 A rfl (fun k hk => absurd hk (Nat.not_lt_zero _))
theorem sp_spread_16 {E : Int64} (h : GX E 16 17 I A) {a : Nat} (ha : a < 2147483648) : f_X2_spread [.ref 16, .int (i32 a)] (79, e, mm_R0, I, J, A, B) = some (.inl (some (.long (spr E a (gn E)))), (79, e, mm_R0, I, J, A, B)) := by
  obtain ⟨h0, h1, h2⟩ := h
  have L : ∀ d k, k + d = gn E → mm_run (mm_pr tb_X2_spread) (5, [some (.ref 16), some (.int (i32 a)), some (.long (spr E a k)), none, some (.int (i32 k))], [], (79, e, mm_R0, I, J, A, B)) = some (.inl (some (.long (spr E a (gn E)))), (79, e, mm_R0, I, J, A, B)) := by
    intro d
    induction d with
    | zero =>
      intro k hk
      rw [sg_X2_spread_16_5, h1]
      have : k = gn E := by omega
      subst this
      simp (disch := omega) only [i32_l, iN_l, i32_add, i32_mul, i32_r0, i32_r1, run_bi, run_bi', i32_sub, decide_eq_true_eq, bi_rt, bi_em, bi_0, bi_1, i32_lt, i32_eq, iN_ne, iN_lt, iN_nlt, i32_ix, i32_in,  mm_aft_v, mm_aft_n, mm_aft_x, if_pos, if_neg, ite_true, ite_false, if_true, if_false, not_false_eq_true, not_true_eq_false, sg_X2_spread_16_53]
    | succ d ih =>
      intro k hk
      rw [← ih (k + 1) (by omega), sg_X2_spread_16_5, h1]
      have un : spr E a (k + 1) = spr E a k ||| (if a.testBit k = true then mbit (gc E k) else 0) := rfl
      rw [un]
      simp (disch := omega) only [i32_l, iN_l, i32_add, i32_mul, i32_r0, i32_r1, run_bi, run_bi', i32_sub, decide_eq_true_eq, bi_rt, bi_em, bi_0, bi_1, i32_lt, i32_eq, iN_ne, iN_lt, iN_nlt, i32_ix, i32_in,  mm_aft_v, mm_aft_n, mm_aft_x, if_pos, if_neg, ite_true, ite_false, if_true, if_false, not_false_eq_true, not_true_eq_false, sp_has, mb_i32 ha, sg_X2_spread_16_29]
      by_cases q : a.testBit k = true
      · simp (disch := omega) only [i32_l, iN_l, i32_add, i32_mul, i32_r0, i32_r1, run_bi, run_bi', i32_sub, decide_eq_true_eq, bi_rt, bi_em, bi_0, bi_1, i32_lt, i32_eq, iN_ne, iN_lt, iN_nlt, i32_ix, i32_in,  mm_aft_v, mm_aft_n, mm_aft_x, if_pos, if_neg, ite_true, ite_false, if_true, if_false, not_false_eq_true, not_true_eq_false, q, h2 k (by omega), sg_X2_spread_16_45]
        rfl
      · simp (disch := omega) only [i32_l, iN_l, i32_add, i32_mul, i32_r0, i32_r1, run_bi, run_bi', i32_sub, decide_eq_true_eq, bi_rt, bi_em, bi_0, bi_1, i32_lt, i32_eq, iN_ne, iN_lt, iN_nlt, i32_ix, i32_in,  mm_aft_v, mm_aft_n, mm_aft_x, if_pos, if_neg, ite_true, ite_false, if_true, if_false, not_false_eq_true, not_true_eq_false, bool_f q, Bool.false_eq_true, sg_X2_spread_16_45]
  rw [en_X2_spread_16, sg_X2_spread_16_0]
  exact L (gn E) 0 (by omega)
theorem sp_full_16 {E : Int64} (h : GX E 16 17 I A) : f_X2_full [.ref 16] (79, e, mm_R0, I, J, A, B) = some (.inl (some (.int (i32 (2 ^ gn E - 1)))), (79, e, mm_R0, I, J, A, B)) := by
  obtain ⟨h0, h1, h2⟩ := h
  have p := Nat.one_le_two_pow (n := gn E)
  rw [en_X2_full_16, sg_X2_full_16_0, h1]
  simp only [i32_l]
  rw [i32_shl (by omega), i32_sub p]
theorem sp_pair_16 (hT : ∀ a, a < 512 → A 18 a = i32 (ter a)) {a b : Nat} (ha : a < 512) (hb : b < 512) (hd : a &&& b = 0) : f_X2_pair [.ref 16, .int (i32 a), .int (i32 b)] (79, e, mm_R0, I, J, A, B) = some (.inl (some (.int (i32 (cd a b)))), (79, e, mm_R0, I, J, A, B)) := by
  rw [en_X2_pair_16, sg_X2_pair_16_0]
  simp (disch := omega) only [i32_l, iN_l, i32_add, i32_mul, i32_r0, i32_r1, run_bi, run_bi', i32_sub, decide_eq_true_eq, bi_rt, bi_em, bi_0, bi_1, i32_lt, i32_eq, iN_ne, iN_lt, iN_nlt, i32_ix, i32_in,  mm_aft_v, mm_aft_n, mm_aft_x, if_pos, if_neg, ite_true, ite_false, if_true, if_false, not_false_eq_true, not_true_eq_false, i32_and, hd, hT a ha, hT b hb]
  rfl
end
theorem or_assoc64 (x y z : Int64) : x ||| y ||| z = x ||| (y ||| z) := by
  apply mb_ext
  intro c _
  rw [mb_or, mb_or, mb_or, mb_or, Bool.or_assoc]
/-! the reference -/
abbrev GM (E : Int64) (I : Nat → Nat → Int32) (A : Nat → Nat → Int32) : Prop := gn E ≤ 9 ∧ I 39 21 = i32 (gn E) ∧ (∀ k, k < gn E → A 50 k = i32 (gc E k))
def dg (c k : Nat) : Nat := c / 3 ^ k % 3
def fl (E : Int64) (c d : Nat) : Nat → Int64
  | 0 => 0
  | k + 1 => fl E c d k ||| (if dg c k = d then mbit (gc E k) else 0)
section
variable (k : Nat) (r : Nat → Nat → Value) (e : Nat) (I : Nat → Nat → Int32) (J : Nat → Nat → Int64) (A : Nat → Nat → Int32) (B : Nat → Nat → Int64)
theorem pow3_lt {j : Nat} (h : j < 10) : 3 ^ j < 19684 := Nat.lt_of_le_of_lt (Nat.pow_le_pow_right (by decide) (show j ≤ 9 by omega)) (by decide)
end
