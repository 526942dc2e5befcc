/-! the moves of a game in the class -/
theorem i32_and1 {i : Nat} (h : i < 2147483648) : i32 i &&& i32 1 = i32 (i % 2) := by
  apply Int32.toBitVec_inj.1
  rw [Int32.toBitVec_and]
  apply BitVec.eq_of_toNat_eq
  rw [BitVec.toNat_and]
  show (i % 2 ^ 32) &&& 1 = (i % 2) % 2 ^ 32
  rw [Nat.and_one_is_mod]
  omega
theorem CB.fr {K R C : Nat} {I I' : Nat → Nat → Int32} {J J' : Nat → Nat → Int64} {A A' : Nat → Nat → Int32} {B B' : Nat → Nat → Int64} (h : CB K R C I J A B) (hI : I' 1 = I 1) (hJ : J' 1 = J 1) (h2 : A' 2 = A 2) (h3 : A' 3 = A 3) (h4 : A' 4 = A 4) (h5 : B' 5 = B 5) (h6 : B' 6 = B 6) : CB K R C I' J' A' B' := by
  unfold CB at h ⊢
  rw [hI, hJ, h2, h3, h4, h5, h6]
  exact h
theorem mm_up_row {α : Type} (f : Nat → Nat → α) (k p : Nat) (v : α) (i : Nat) (h : i ≠ k) : mm_up f k p v i = f i := by
  funext j; exact mm_up_ne1 _ _ _ _ _ _ h
def kf (sw : Bool) (number : Nat) : Nat := bif sw && Nat.blt 1 number then 1 else 0
def stN (lg : Nat → Nat) (f p : Nat) : Nat → Int64
  | 0 => 0
  | i + 1 => stN lg f p i ||| (if f ≤ i ∧ i % 2 = p then mbit (lg i) else 0)
noncomputable def jnd (K R C : Nat) (s0 s1 : Int64) : Int32 := bif jnB K R C 0 s0 then i32 0 else bif jnB K R C 1 s1 then i32 1 else iN
abbrev PL (lg : Nat → Nat) (m : Nat) (sw : Bool) (I : Nat → Nat → Int32) (A : Nat → Nat → Int32) : Prop := I 7 2 = i32 m ∧ I 7 3 = bi sw ∧ m ≤ 37 ∧ (∀ i, i < m → A 8 i = i32 (lg i))
section
variable (k : Nat) (r : Nat → Nat → Value) (e : Nat) (I : Nat → Nat → Int32) (J : Nat → Nat → Int64) (A : Nat → Nat → Int32) (B : Nat → Nat → Int64)
theorem sp_hasJoinedP {K R C : Nat} (h : CB K R C I J A B) {p : Nat} (hp : p < 2) (w : Int64) : f_X1_hasJoined [.ref 1, .int (i32 p), .long w] (k + 9, e, (mm_RP r), I, J, A, B) = some (.inl (some (.int (bi (jnB K R C p w)))), (k + 9, e, (mm_RP r), I, J, A, B)) := by
  have q := sp_hasJoined (k + 2) (mm_RP r) e I J A B h hp w
  rw [mm_RB_P] at q
  exact q
theorem sp_firstKept {sw : Bool} (hs : I 7 3 = bi sw) {number : Nat} (hn : number < 2147483648) : f_X6_firstKept [.ref 7, .int (i32 number)] (k + 9, e, (mm_RP r), I, J, A, B) = some (.inl (some (.int (i32 (kf sw number)))), (k + 9, e, (mm_RP r), I, J, A, B)) := by
  rw [en_X6_firstKept, sg_X6_firstKept_0, hs]
  unfold kf
  cases sw with
  | false => simp (disch := omega) only [i32_l, iN_l, i32_add, i32_mul, i32_r0, i32_r1, run_bi, run_bi', i32_sub, decide_eq_true_eq, bi_rt, bi_em, bi_0, bi_1, i32_lt, i32_eq, iN_ne, iN_lt, iN_nlt, i32_ix, i32_in,  mm_aft_v, mm_aft_n, mm_aft_x, if_pos, if_neg, ite_true, ite_false, if_true, if_false, not_false_eq_true, not_true_eq_false, sg_X6_firstKept_16, sg_X6_firstKept_17, Bool.false_eq_true]; rfl
  | true =>
    by_cases q : 1 < number
    · have e1 : Nat.blt 1 number = true := by rw [Nat.blt_eq]; exact q
      simp (disch := omega) only [i32_l, iN_l, i32_add, i32_mul, i32_r0, i32_r1, run_bi, run_bi', i32_sub, decide_eq_true_eq, bi_rt, bi_em, bi_0, bi_1, i32_lt, i32_eq, iN_ne, iN_lt, iN_nlt, i32_ix, i32_in,  mm_aft_v, mm_aft_n, mm_aft_x, if_pos, if_neg, ite_true, ite_false, if_true, if_false, not_false_eq_true, not_true_eq_false, sg_X6_firstKept_16, sg_X6_firstKept_17]
      rw [e1]; rfl
    · have e1 : Nat.blt 1 number = false := bool_f (by rw [Nat.blt_eq]; exact q)
      simp (disch := omega) only [i32_l, iN_l, i32_add, i32_mul, i32_r0, i32_r1, run_bi, run_bi', i32_sub, decide_eq_true_eq, bi_rt, bi_em, bi_0, bi_1, i32_lt, i32_eq, iN_ne, iN_lt, iN_nlt, i32_ix, i32_in,  mm_aft_v, mm_aft_n, mm_aft_x, if_pos, if_neg, ite_true, ite_false, if_true, if_false, not_false_eq_true, not_true_eq_false, sg_X6_firstKept_16, sg_X6_firstKept_17]
      rw [e1]; rfl
theorem kf_le (sw : Bool) (number : Nat) : kf sw number ≤ 1 ∧ kf sw number ≤ number := by
  unfold kf
  cases sw with
  | false => exact ⟨Nat.zero_le _, Nat.zero_le _⟩
  | true =>
    rw [Bool.true_and]
    cases h : Nat.blt 1 number with
    | false => exact ⟨Nat.zero_le _, Nat.zero_le _⟩
    | true =>
      rw [Nat.blt_eq] at h
      show 1 ≤ 1 ∧ 1 ≤ number
      omega
theorem stN_f (lg : Nat → Nat) (p : Nat) {f : Nat} (h : f ≤ 1) : stN lg f p f = 0 := by
  have : f = 0 ∨ f = 1 := by omega
  rcases this with q | q
  · subst q; rfl
  · subst q
    show (0 : Int64) ||| (if 1 ≤ 0 ∧ 0 % 2 = p then mbit (lg 0) else 0) = 0
    rw [if_neg (fun z => absurd z.1 (by decide))]
    rfl
theorem sp_stonesAhead {lg : Nat → Nat} {m : Nat} {sw : Bool} (h : PL lg m sw I A) {number p : Nat} (hn : number ≤ m) (hp : p < 2) : f_X6_stonesAhead [.ref 7, .int (i32 number), .int (i32 p)] (k + 9, e, (mm_RP r), I, J, A, B) = some (.inl (some (.long (stN lg (kf sw number) p number))), (k + 9, e, (mm_RP r), I, J, A, B)) := by
  obtain ⟨h1, h2, h3, h4⟩ := h
  have kl := kf_le sw number
  have L : ∀ (d i : Nat), i + d = number → kf sw number ≤ i → mm_run (mm_pr tb_X6_stonesAhead) (9, [some (.ref 7), some (.int (i32 number)), some (.int (i32 p)), some (.long (stN lg (kf sw number) p i)), none, some (.int (i32 i))], [], (k + 9, e, (mm_RP r), I, J, A, B)) = some (.inl (some (.long (stN lg (kf sw number) p number))), (k + 9, e, (mm_RP r), I, J, A, B)) := by
    intro d
    induction d with
    | zero =>
      intro i hi hk
      have : i = number := by omega
      subst this
      rw [sg_X6_stonesAhead_9]
      simp (disch := omega) only [i32_l, iN_l, i32_add, i32_mul, i32_r0, i32_r1, run_bi, run_bi', i32_sub, decide_eq_true_eq, bi_rt, bi_em, bi_0, bi_1, i32_lt, i32_eq, iN_ne, iN_lt, iN_nlt, i32_ix, i32_in,  mm_aft_v, mm_aft_n, mm_aft_x, if_pos, if_neg, ite_true, ite_false, if_true, if_false, not_false_eq_true, not_true_eq_false, sg_X6_stonesAhead_55]
    | succ d ih =>
      intro i hi hk
      have := ih (i + 1) (by omega) (by omega)
      rw [← this, sg_X6_stonesAhead_9]
      have un : stN lg (kf sw number) p (i + 1) = stN lg (kf sw number) p i ||| (if kf sw number ≤ i ∧ i % 2 = p then mbit (lg i) else 0) := rfl
      rw [un]
      simp only [i32_l]
      rw [i32_and1 (by omega)]
      by_cases q : i % 2 = p
      · have q2 : i32 (i % 2) = i32 p := by rw [q]
        rw [if_pos (show kf sw number ≤ i ∧ i % 2 = p from ⟨hk, q⟩)]
        simp (disch := omega) only [i32_l, iN_l, i32_add, i32_mul, i32_r0, i32_r1, run_bi, run_bi', i32_sub, decide_eq_true_eq, bi_rt, bi_em, bi_0, bi_1, i32_lt, i32_eq, iN_ne, iN_lt, iN_nlt, i32_ix, i32_in,  mm_aft_v, mm_aft_n, mm_aft_x, if_pos, if_neg, ite_true, ite_false, if_true, if_false, not_false_eq_true, not_true_eq_false, q2, h4 i (by omega), sg_X6_stonesAhead_47]
        rfl
      · rw [if_neg (show ¬ (kf sw number ≤ i ∧ i % 2 = p) from fun z => q z.2)]
        simp (disch := omega) only [i32_l, iN_l, i32_add, i32_mul, i32_r0, i32_r1, run_bi, run_bi', i32_sub, decide_eq_true_eq, bi_rt, bi_em, bi_0, bi_1, i32_lt, i32_eq, iN_ne, iN_lt, iN_nlt, i32_ix, i32_in,  mm_aft_v, mm_aft_n, mm_aft_x, if_pos, if_neg, ite_true, ite_false, if_true, if_false, not_false_eq_true, not_true_eq_false, sg_X6_stonesAhead_47]
  rw [en_X6_stonesAhead, sg_X6_stonesAhead_0, sp_firstKept k r e I J A B h2 (by omega), mm_aft_v, sg_X6_stonesAhead_7]
  rw [← stN_f lg p kl.1]
  exact L (number - kf sw number) (kf sw number) (by omega) (Nat.le_refl _)
theorem sp_settle {K R C : Nat} {lg : Nat → Nat} {m : Nat} {sw : Bool} (hb : CB K R C I J A B) (h : PL lg m sw I A) : f_X6_settle [.ref 7] (k + 9, e, (mm_RP r), I, J, A, B) = some (.inl none, (k + 9, e, (mm_RP r), mm_up I 7 6 (jnd K R C (stN lg (kf sw m) 0 m) (stN lg (kf sw m) 1 m)), mm_up (mm_up J 7 4 (stN lg (kf sw m) 0 m)) 7 5 (stN lg (kf sw m) 1 m), A, B)) := by
  have h' := h
  obtain ⟨h1, h2, h3, h4⟩ := h
  rw [en_X6_settle, sg_X6_settle_0, h1]
  simp only [i32_l]
  rw [sp_stonesAhead k r e I J A B h' (Nat.le_refl _) (by decide), mm_aft_v, sg_X6_settle_10, h1]
  simp only [i32_l]
  rw [sp_stonesAhead k r e I _ A B h' (Nat.le_refl _) (by decide), mm_aft_v, sg_X6_settle_23, mm_up_eq]
  simp only [i32_l]
  have hb2 : CB K R C I (mm_up (mm_up J 7 4 (stN lg (kf sw m) 0 m)) 7 5 (stN lg (kf sw m) 1 m)) A B := hb.fr rfl (by rw [mm_up_row _ _ _ _ _ (by decide), mm_up_row _ _ _ _ _ (by decide)]) rfl rfl rfl rfl rfl
  rw [sp_hasJoinedP k r e I _ A B hb2 (by decide), mm_aft_v, sg_X6_settle_39, mm_up_eq]
  unfold jnd
  cases q0 : jnB K R C 0 (stN lg (kf sw m) 0 m) with
  | true => simp (disch := omega) only [i32_l, iN_l, i32_add, i32_mul, i32_r0, i32_r1, run_bi, run_bi', i32_sub, decide_eq_true_eq, bi_rt, bi_em, bi_0, bi_1, i32_lt, i32_eq, iN_ne, iN_lt, iN_nlt, i32_ix, i32_in,  mm_aft_v, mm_aft_n, mm_aft_x, if_pos, if_neg, ite_true, ite_false, if_true, if_false, not_false_eq_true, not_true_eq_false, sg_X6_settle_66]; rfl
  | false =>
    simp (disch := omega) only [i32_l, iN_l, i32_add, i32_mul, i32_r0, i32_r1, run_bi, run_bi', i32_sub, decide_eq_true_eq, bi_rt, bi_em, bi_0, bi_1, i32_lt, i32_eq, iN_ne, iN_lt, iN_nlt, i32_ix, i32_in,  mm_aft_v, mm_aft_n, mm_aft_x, if_pos, if_neg, ite_true, ite_false, if_true, if_false, not_false_eq_true, not_true_eq_false, Bool.false_eq_true]
    rw [sp_hasJoinedP k r e I _ A B hb2 (by decide), mm_aft_v, sg_X6_settle_58]
    cases q1 : jnB K R C 1 (stN lg (kf sw m) 1 m) with
    | true => simp (disch := omega) only [i32_l, iN_l, i32_add, i32_mul, i32_r0, i32_r1, run_bi, run_bi', i32_sub, decide_eq_true_eq, bi_rt, bi_em, bi_0, bi_1, i32_lt, i32_eq, iN_ne, iN_lt, iN_nlt, i32_ix, i32_in,  mm_aft_v, mm_aft_n, mm_aft_x, if_pos, if_neg, ite_true, ite_false, if_true, if_false, not_false_eq_true, not_true_eq_false, sg_X6_settle_66]; rfl
    | false => simp (disch := omega) only [i32_l, iN_l, i32_add, i32_mul, i32_r0, i32_r1, run_bi, run_bi', i32_sub, decide_eq_true_eq, bi_rt, bi_em, bi_0, bi_1, i32_lt, i32_eq, iN_ne, iN_lt, iN_nlt, i32_ix, i32_in,  mm_aft_v, mm_aft_n, mm_aft_x, if_pos, if_neg, ite_true, ite_false, if_true, if_false, not_false_eq_true, not_true_eq_false, Bool.false_eq_true, sg_X6_settle_66]; rfl
end
