/-! playing out: the bridge that the last stone broke, class -/
def BrP (K R C : Nat) (mine : Int64) (l x y : Nat) : Prop := x < bN K R C ∧ y < bN K R C ∧ x ≠ y ∧ mb mine x = true ∧ mb mine y = true ∧ mb (bNb K R C x) y = false ∧ gn (bNb K R C x &&& bNb K R C y) = 2 ∧ mb (bNb K R C x) l = true ∧ mb (bNb K R C y) l = true
def SvP (K R C : Nat) (mine : Int64) (l c : Nat) : Prop := ∃ x y, BrP K R C mine l x y ∧ mb (bNb K R C x) c = true ∧ mb (bNb K R C y) c = true
noncomputable def svW (K R C : Nat) (mine em : Int64) (l : Nat) : Int64 := ms (fun c => mb em c && pdec (SvP K R C mine l c)) 36
noncomputable def svI (K R C : Nat) (mine em : Int64) (l : Nat) : Int32 := if svW K R C mine em l = 0 then iN else i32 (mlo (svW K R C mine em l))
def BtP (K R C : Nat) (mine : Int64) (l i j c : Nat) : Prop := ∃ x y, x < bN K R C ∧ y < bN K R C ∧ bNx K R C l i = i32 x ∧ bNx K R C l j = i32 y ∧ mb mine x = true ∧ mb mine y = true ∧ mb (bNb K R C x) y = false ∧ gn (bNb K R C x &&& bNb K R C y) = 2 ∧ mb (bNb K R C x) c = true ∧ mb (bNb K R C y) c = true
theorem mcnt_and {K R C x : Nat} (v : bV K R C = true) (w : Int64) : mcnt (bNb K R C x &&& w) = gn (bNb K R C x &&& w) := by
  have hN := bN_le v
  rw [mcnt_cf]
  refine cf_stop (fun c hc => bool_f (fun z => ?_)) (by decide)
  rw [mb_and, Bool.and_eq_true] at z
  have := bNb_lt v z.1
  omega
theorem and_comm64 (x y : Int64) : x &&& y = y &&& x := mb_ext (fun c _ => by rw [mb_and, mb_and, Bool.and_comm])
theorem BtP_sv {K R C : Nat} (v : bV K R C = true) {mine : Int64} {l : Nat} (hl : l < bN K R C) (c : Nat) : SvP K R C mine l c ↔ ∃ i j, i < j ∧ j < 6 ∧ BtP K R C mine l i j c := by
  have hN := bN_le v
  constructor
  · rintro ⟨x, y, ⟨h1, h2, h3, h4, h5, h6, h7, h8, h9⟩, h10, h11⟩
    obtain ⟨i, i1, i2⟩ := (nb_dir v h1).1 (nb_sym v h1 hl h8)
    obtain ⟨j, j1, j2⟩ := (nb_dir v h2).1 (nb_sym v h2 hl h9)
    rcases Nat.lt_trichotomy i j with q | q | q
    · exact ⟨i, j, q, j1, x, y, h1, h2, i2, j2, h4, h5, h6, h7, h10, h11⟩
    · subst q
      rw [i2] at j2
      exact absurd ((i32_eq (by omega) (by omega)).1 j2) h3
    · refine ⟨j, i, q, i1, y, x, h2, h1, j2, i2, h5, h4, ?_, by rw [and_comm64]; exact h7, h11, h10⟩
      exact bool_f (fun z => by rw [nb_sym v h2 h1 z] at h6; cases h6)
  · rintro ⟨i, j, h1, h2, x, y, h3, h4, h5, h6, h7, h8, h9, h10, h11, h12⟩
    refine ⟨x, y, ⟨h3, h4, ?_, h7, h8, h9, h10, ?_, ?_⟩, h11, h12⟩
    · intro q
      subst q
      have d := all2_of (bAll_of b_dist v) hl h2
      rw [List.all_eq_true] at d
      have := d i (List.mem_range.2 h1)
      rw [h5, h6] at this
      simp only [Bool.or_eq_true, decide_eq_true_eq, Bool.not_eq_true', decide_true, Bool.false_eq_true, or_false, reduceCtorEq] at this
      exact (iN_ne (a := x) (by omega)).1 this
    · exact nb_sym v hl h3 ((nb_dir v h3).2 ⟨i, by omega, h5⟩)
    · exact nb_sym v hl h4 ((nb_dir v h4).2 ⟨j, by omega, h6⟩)
theorem svW_of {K R C : Nat} {mine em W : Int64} {l : Nat} (h36 : ∀ c, mb em c = true → c < 36) (h : ∀ c, mb W c = true ↔ SvP K R C mine l c) : W &&& em = svW K R C mine em l := by
  apply mb_ext
  intro c hc
  unfold svW
  rw [mb_and, mb_ms _ _ _ (by decide)]
  cases q : mb em c with
  | false => rw [Bool.and_false, Bool.false_and, Bool.and_false]
  | true =>
    rw [Bool.and_true, Bool.true_and, decide_eq_true (h36 c q), Bool.true_and]
    cases y : mb W c with
    | true => exact (pdec_t.2 ((h c).1 y)).symm
    | false => exact (bool_f (fun z => by rw [(h c).2 (pdec_t.1 z)] at y; cases y)).symm
section
variable {K R C : Nat} (e : Nat) (I : Nat → Nat → Int32) (J : Nat → Nat → Int64) (A : Nat → Nat → Int32) (B : Nat → Nat → Int64)
theorem sp0_next (h : CB K R C I J A B) {c d : Nat} (hc : c < bN K R C) (hd : d < 6) : f_X1_next [.ref 1, .int (i32 c), .int (i32 d)] (79, e, mm_R0, I, J, A, B) = some (.inl (some (.int (bNx K R C c d))), (79, e, mm_R0, I, J, A, B)) := by
  have hN := bN_le h.v
  have h1 := en_X1_next 72 mm_R0 e I J A B (i32 c) (i32 d)
  have h2 := sg_X1_next_0 72 mm_R0 e I J A B (i32 c) (i32 d)
  have h3 := sg_X1_next_5 72 mm_R0 e I J A B (i32 c) (i32 d) (bi true)
  have h4 := sg_X1_next_33 72 mm_R0 e I J A B (i32 c) (i32 d) (bNx K R C c d)
  rw [mm_RB_0] at h1 h2 h3 h4
  rw [h1, h2]
  have h5 := sp_hasCell e I J A B h (i32 c)
  rw [cellP_i hN (by omega), decide_eq_true hc] at h5
  rw [h5, mm_aft_v, h3, if_neg (show ¬ bi true = 0 by decide)]
  have nx := h.nx c d hc hd
  simp (disch := omega) only [i32_l, iN_l, i32_add, i32_mul, i32_r0, i32_r1, run_bi, run_bi', i32_sub, decide_eq_true_eq, bi_rt, bi_em, bi_0, bi_1, i32_lt, i32_eq, iN_ne, iN_lt, iN_nlt, i32_ix, i32_in,  mm_aft_v, mm_aft_n, mm_aft_x, if_pos, if_neg, ite_true, ite_false, if_true, if_false, not_false_eq_true, not_true_eq_false, nx]
  exact h4
theorem sp_between0 {x y : Int32} (w : Int64) (hxy : x = iN ∨ y = iN) : f_X7_between [.ref 23, .int x, .int y, .long w] (79, e, mm_R0, I, J, A, B) = some (.inl (some (.long 0)), (79, e, mm_R0, I, J, A, B)) := by
  rw [en_X7_between, sg_X7_between_0]
  by_cases q : x = iN
  · rw [if_pos (show x = (-1 : Int32) from q), sg_X7_between_41]
  · rw [if_neg (show ¬ x = (-1 : Int32) from q), if_pos (show y = (-1 : Int32) from hxy.resolve_left q), sg_X7_between_41]
theorem sp_between (h : CB K R C I J A B) {x y : Nat} (hx : x < bN K R C) (hy : y < bN K R C) (w : Int64) : ∃ v, f_X7_between [.ref 23, .int (i32 x), .int (i32 y), .long w] (79, e, mm_R0, I, J, A, B) = some (.inl (some (.long v)), (79, e, mm_R0, I, J, A, B)) ∧ ∀ c, mb v c = true ↔ (mb w x = true ∧ mb w y = true ∧ mb (bNb K R C x) y = false ∧ gn (bNb K R C x &&& bNb K R C y) = 2 ∧ mb (bNb K R C x) c = true ∧ mb (bNb K R C y) c = true) := by
  have hN := bN_le h.v
  rw [en_X7_between, sg_X7_between_0, if_neg (show ¬ i32 x = (-1 : Int32) from fun z => (iN_ne (a := x) (by omega)).1 z), if_neg (show ¬ i32 y = (-1 : Int32) from fun z => (iN_ne (a := y) (by omega)).1 z), sp_has _ _ (by omega), mm_aft_v, sg_X7_between_15]
  cases q1 : mb w x with
  | false => exact ⟨0, by rw [if_pos (show bi false = 0 from rfl), sg_X7_between_41], fun c => by rw [mb_zero]; exact ⟨fun z => (by cases z), fun z => by cases z.1⟩⟩
  | true =>
    rw [if_neg (show ¬ bi true = 0 by decide), sp_has _ _ (by omega), mm_aft_v, sg_X7_between_23]
    cases q2 : mb w y with
    | false => exact ⟨0, by rw [if_pos (show bi false = 0 from rfl), sg_X7_between_41], fun c => by rw [mb_zero]; exact ⟨fun z => (by cases z), fun z => by cases z.2.1⟩⟩
    | true =>
      rw [if_neg (show ¬ bi true = 0 by decide), sp0_around e I J B A h hx, mm_aft_v, sg_X7_between_34, sp_has _ _ (by omega), mm_aft_v, sg_X7_between_38]
      cases q3 : mb (bNb K R C x) y with
      | true => exact ⟨0, by rw [if_neg (show ¬ bi true = 0 by decide), sg_X7_between_41], fun c => by rw [mb_zero]; exact ⟨fun z => (by cases z), fun z => by cases z.2.2.1⟩⟩
      | false =>
        rw [if_pos (show bi false = 0 from rfl), sp0_around e I J B A h hx, mm_aft_v, sg_X7_between_51, sp0_around e I J B A h hy, mm_aft_v, sg_X7_between_59, sp_bitCount, mm_aft_v, sg_X7_between_67, mcnt_and h.v]
        have gl : gn (bNb K R C x &&& bNb K R C y) ≤ 36 := cf_le _ _
        by_cases q4 : gn (bNb K R C x &&& bNb K R C y) = 2
        · rw [if_pos (show i32 (gn (bNb K R C x &&& bNb K R C y)) = (2 : Int32) by rw [q4]; rfl), sg_X7_between_77]
          refine ⟨_, rfl, fun c => ?_⟩
          rw [mb_and, Bool.and_eq_true]
          exact ⟨fun z => ⟨rfl, rfl, rfl, q4, z.1, z.2⟩, fun z => z.2.2.2.2⟩
        · rw [if_neg (show ¬ i32 (gn (bNb K R C x &&& bNb K R C y)) = (2 : Int32) from fun z => q4 ((i32_eq (b := 2) (by omega) (by decide)).1 z)), sg_X7_between_77]
          exact ⟨0, rfl, fun c => by rw [mb_zero]; exact ⟨fun z => (by cases z), fun z => absurd z.2.2.2.1 q4⟩⟩
theorem sp_betweenD (h : CB K R C I J A B) {l i j : Nat} (hl : l < bN K R C) (hi : i < 6) (hj : j < 6) (w : Int64) : ∃ v, f_X7_between [.ref 23, .int (bNx K R C l i), .int (bNx K R C l j), .long w] (79, e, mm_R0, I, J, A, B) = some (.inl (some (.long v)), (79, e, mm_R0, I, J, A, B)) ∧ ∀ c, mb v c = true ↔ BtP K R C w l i j c := by
  have hN := bN_le h.v
  rcases b_nxc h.v hl hi with q | ⟨x, x1, x2⟩
  · refine ⟨0, sp_between0 e I J A B w (Or.inl q), fun c => ?_⟩
    rw [mb_zero]
    refine ⟨fun z => (by cases z), ?_⟩
    rintro ⟨a, b, z1, z2, z3, z4⟩
    rw [q] at z3
    exact absurd z3.symm (fun z => (iN_ne (a := a) (by omega)).1 z)
  · rcases b_nxc h.v hl hj with q | ⟨y, y1, y2⟩
    · refine ⟨0, sp_between0 e I J A B w (Or.inr q), fun c => ?_⟩
      rw [mb_zero]
      refine ⟨fun z => (by cases z), ?_⟩
      rintro ⟨a, b, z1, z2, z3, z4, z5⟩
      rw [q] at z4
      exact absurd z4.symm (fun z => (iN_ne (a := b) (by omega)).1 z)
    · obtain ⟨v, v1, v2⟩ := sp_between e I J A B h x2 y2 w
      rw [x1, y1]
      refine ⟨v, v1, fun c => ?_⟩
      rw [v2 c]
      constructor
      · rintro ⟨z1, z2, z3, z4, z5, z6⟩
        exact ⟨x, y, x2, y2, x1, y1, z1, z2, z3, z4, z5, z6⟩
      · rintro ⟨a, b, z1, z2, z3, z4, z5, z6, z7, z8, z9, z10⟩
        rw [x1] at z3
        rw [y1] at z4
        have ea := (i32_eq (by omega) (by omega)).1 z3
        have eb := (i32_eq (by omega) (by omega)).1 z4
        subst ea
        subst eb
        exact ⟨z5, z6, z7, z8, z9, z10⟩
theorem sp_saving (h : CB K R C I J A B) {l : Nat} (hl : l < bN K R C) (mine em : Int64) (h36 : ∀ c, mb em c = true → c < 36) : f_X7_saving [.ref 23, .int (i32 l), .long mine, .long em] (79, e, mm_R0, I, J, A, B) = some (.inl (some (.int (svI K R C mine em l))), (79, e, mm_R0, I, J, A, B)) := by
  have hN := bN_le h.v
  have inner : ∀ (dd i j : Nat) (W : Int64), j + dd = 6 → i < 6 → ∃ W', mm_run (mm_pr tb_X7_saving) (19, [some (.ref 23), some (.int (i32 l)), some (.long mine), none, some (.long em), none, some (.long W), none, some (.int (i32 i)), some (.int (i32 j))], [], (79, e, mm_R0, I, J, A, B)) = mm_run (mm_pr tb_X7_saving) (6, [some (.ref 23), some (.int (i32 l)), some (.long mine), none, some (.long em), none, some (.long W'), none, some (.int (i32 (i + 1))), some (.int (i32 6))], [], (79, e, mm_R0, I, J, A, B)) ∧ ∀ c, mb W' c = true ↔ (mb W c = true ∨ ∃ t, j ≤ t ∧ t < 6 ∧ BtP K R C mine l i t c) := by
    intro dd
    induction dd with
    | zero =>
      intro i j W hj hi
      have j6 : j = 6 := by omega
      subst j6
      refine ⟨W, ?_, fun c => ⟨fun z => Or.inl z, fun z => z.resolve_right (fun ⟨t, t1, t2, _⟩ => by omega)⟩⟩
      rw [sg_X7_saving_19]
      simp (disch := omega) only [i32_l, iN_l, i32_add, i32_mul, i32_r0, i32_r1, run_bi, run_bi', i32_sub, decide_eq_true_eq, bi_rt, bi_em, bi_0, bi_1, i32_lt, i32_eq, iN_ne, iN_lt, iN_nlt, i32_ix, i32_in,  mm_aft_v, mm_aft_n, mm_aft_x, if_pos, if_neg, ite_true, ite_false, if_true, if_false, not_false_eq_true, not_true_eq_false]
    | succ dd ih =>
      intro i j W hj hi
      obtain ⟨v, v1, v2⟩ := sp_betweenD e I J A B h hl hi (show j < 6 by omega) mine
      obtain ⟨W', w1, w2⟩ := ih i (j + 1) (W ||| v) (by omega) hi
      refine ⟨W', ?_, fun c => ?_⟩
      · rw [← w1, sg_X7_saving_19]
        simp (disch := omega) only [i32_l, iN_l, i32_add, i32_mul, i32_r0, i32_r1, run_bi, run_bi', i32_sub, decide_eq_true_eq, bi_rt, bi_em, bi_0, bi_1, i32_lt, i32_eq, iN_ne, iN_lt, iN_nlt, i32_ix, i32_in,  mm_aft_v, mm_aft_n, mm_aft_x, if_pos, if_neg, ite_true, ite_false, if_true, if_false, not_false_eq_true, not_true_eq_false]
        rw [sp0_next e I J A B h hl hi, mm_aft_v, sg_X7_saving_39, sp0_next e I J A B h hl (show j < 6 by omega), mm_aft_v, sg_X7_saving_49, v1, mm_aft_v, sg_X7_saving_53]
        simp (disch := omega) only [i32_l, iN_l, i32_add, i32_mul, i32_r0, i32_r1, run_bi, run_bi', i32_sub, decide_eq_true_eq, bi_rt, bi_em, bi_0, bi_1, i32_lt, i32_eq, iN_ne, iN_lt, iN_nlt, i32_ix, i32_in,  mm_aft_v, mm_aft_n, mm_aft_x, if_pos, if_neg, ite_true, ite_false, if_true, if_false, not_false_eq_true, not_true_eq_false]
      · rw [w2 c, mb_or, Bool.or_eq_true, v2 c]
        constructor
        · rintro ((z | z) | ⟨t, t1, t2, t3⟩)
          · exact Or.inl z
          · exact Or.inr ⟨j, Nat.le_refl _, by omega, z⟩
          · exact Or.inr ⟨t, by omega, t2, t3⟩
        · rintro (z | ⟨t, t1, t2, t3⟩)
          · exact Or.inl (Or.inl z)
          · by_cases q : t = j
            · rw [q] at t3; exact Or.inl (Or.inr t3)
            · exact Or.inr ⟨t, by omega, t2, t3⟩
  have outer : ∀ (dd i : Nat) (W : Int64) (o9 : Option Value), i + dd = 6 → ∃ W' o9', mm_run (mm_pr tb_X7_saving) (6, [some (.ref 23), some (.int (i32 l)), some (.long mine), none, some (.long em), none, some (.long W), none, some (.int (i32 i)), o9], [], (79, e, mm_R0, I, J, A, B)) = mm_run (mm_pr tb_X7_saving) (6, [some (.ref 23), some (.int (i32 l)), some (.long mine), none, some (.long em), none, some (.long W'), none, some (.int (i32 6)), o9'], [], (79, e, mm_R0, I, J, A, B)) ∧ ∀ c, mb W' c = true ↔ (mb W c = true ∨ ∃ s t, i ≤ s ∧ s < t ∧ t < 6 ∧ BtP K R C mine l s t c) := by
    intro dd
    induction dd with
    | zero =>
      intro i W o9 hi
      have i6 : i = 6 := by omega
      subst i6
      exact ⟨W, o9, rfl, fun c => ⟨fun z => Or.inl z, fun z => z.resolve_right (fun ⟨s, t, t1, t2, t3, _⟩ => by omega)⟩⟩
    | succ dd ih =>
      intro i W o9 hi
      obtain ⟨W1, a1, a2⟩ := inner (5 - i) i (i + 1) W (by omega) (by omega)
      obtain ⟨W2, o2, b1, b2⟩ := ih (i + 1) W1 (some (.int (i32 6))) (by omega)
      refine ⟨W2, o2, ?_, fun c => ?_⟩
      · rw [← b1, ← a1, sg_X7_saving_6]
        simp (disch := omega) only [i32_l, iN_l, i32_add, i32_mul, i32_r0, i32_r1, run_bi, run_bi', i32_sub, decide_eq_true_eq, bi_rt, bi_em, bi_0, bi_1, i32_lt, i32_eq, iN_ne, iN_lt, iN_nlt, i32_ix, i32_in,  mm_aft_v, mm_aft_n, mm_aft_x, if_pos, if_neg, ite_true, ite_false, if_true, if_false, not_false_eq_true, not_true_eq_false]
      · rw [b2 c, a2 c]
        constructor
        · rintro ((z | ⟨t, t1, t2, t3⟩) | ⟨s, t, t1, t2, t3, t4⟩)
          · exact Or.inl z
          · exact Or.inr ⟨i, t, Nat.le_refl _, by omega, t2, t3⟩
          · exact Or.inr ⟨s, t, by omega, t2, t3, t4⟩
        · rintro (z | ⟨s, t, t1, t2, t3, t4⟩)
          · exact Or.inl (Or.inl z)
          · by_cases q : s = i
            · rw [q] at t4 t2; exact Or.inl (Or.inr ⟨t, by omega, t3, t4⟩)
            · exact Or.inr ⟨s, t, by omega, t2, t3, t4⟩
  obtain ⟨W, o9, a1, a2⟩ := outer 6 0 0 none rfl
  have hW : W &&& em = svW K R C mine em l := svW_of h36 (fun c => by
    rw [a2 c, mb_zero, BtP_sv h.v hl c]
    constructor
    · rintro (z | ⟨s, t, _, t2, t3, t4⟩)
      · cases z
      · exact ⟨s, t, t2, t3, t4⟩
    · rintro ⟨s, t, t2, t3, t4⟩
      exact Or.inr ⟨s, t, Nat.zero_le _, t2, t3, t4⟩)
  rw [en_X7_saving, sg_X7_saving_0]
  simp only [i32_l]
  rw [a1, sg_X7_saving_6, if_neg (show ¬ i32 6 < (6 : Int32) by decide), hW]
  unfold svI
  by_cases q : svW K R C mine em l = 0
  · rw [if_pos q, if_pos q, sg_X7_saving_91]; rfl
  · rw [if_neg q, if_neg q, sp_lowest, mm_aft_v, sg_X7_saving_91]
end
