/-! the class looks for who wins by best play: joins, score, with what it keeps -/
section
variable (e : Nat) (I : Nat → Nat → Int32) (J : Nat → Nat → Int64) (A : Nat → Nat → Int32) (B : Nat → Nat → Int64)
theorem sp0_hasJoined {K R C : Nat} (h : CB K R C I J A B) {p : Nat} (hp : p < 2) (w : Int64) : f_X1_hasJoined [.ref 1, .int (i32 p), .long w] (79, e, mm_R0, I, J, A, B) = some (.inl (some (.int (bi (jnB K R C p w)))), (79, e, mm_R0, I, J, A, B)) := by
  have := sp_hasJoinedP 70 mm_R0 e I J A B h hp w
  rw [mm_RP_0] at this
  exact this
end
def si (x : Int) : Int32 := Int32.ofInt x
theorem si_toInt {x : Int} (h1 : -2147483648 ≤ x) (h2 : x < 2147483648) : (si x).toInt = x := Int32.toInt_ofInt_of_le h1 h2
theorem si_lt {x y : Int} (h1 : -2147483648 ≤ x) (h2 : x < 2147483648) (h3 : -2147483648 ≤ y) (h4 : y < 2147483648) : (si x < si y) ↔ x < y := by
  rw [Int32.lt_iff_toInt_lt, si_toInt h1 h2, si_toInt h3 h4]
theorem si_eq {x y : Int} (h1 : -2147483648 ≤ x) (h2 : x < 2147483648) (h3 : -2147483648 ≤ y) (h4 : y < 2147483648) : (si x = si y) ↔ x = y := by
  rw [← Int32.toInt_inj, si_toInt h1 h2, si_toInt h3 h4]
theorem si_i32 (n : Nat) : i32 n = si (n : Int) := Int32.ofInt_eq_ofNat.symm
theorem si_sub (x y : Int) : si x - si y = si (x - y) := (Int32.ofInt_sub x y).symm
theorem si_add (x y : Int) : si x + si y = si (x + y) := (Int32.ofInt_add x y).symm
theorem si_iN : iN = si (-1) := by decide
theorem si_byte_t : ∀ v : Fin 201, (((si ((v.1 : Int) - 100)).toInt8.toInt32).toInt8.toInt32) = si ((v.1 : Int) - 100) := by decide +kernel
theorem si_byte {x : Int} (h1 : -100 ≤ x) (h2 : x ≤ 100) : (((si x).toInt8.toInt32).toInt8.toInt32) = si x := by
  have := si_byte_t ⟨(x + 100).toNat, by omega⟩
  rw [show (((x + 100).toNat : Int) - 100) = x by omega] at this
  exact this
def psn (s0 s1 : Int64) (p : Nat) : Int64 := if p = 0 then s0 else s1
def fr (E : Int64) (a b : Nat) : Nat := cf (fun k => !a.testBit k && !b.testBit k) (gn E)
theorem fr_comm (E : Int64) (a b : Nat) : fr E a b = fr E b a := cf_congr (fun c _ => Bool.and_comm _ _)
theorem fr_le (E : Int64) (a b : Nat) : fr E a b ≤ gn E := cf_le _ _
noncomputable def scv (K R C : Nat) (E s0 s1 : Int64) (tu a b : Nat) : Int := Sc K R C (fr E a b) ((tu + (gn E - fr E a b)) % 2) (s0 ||| spr E a (gn E)) (s1 ||| spr E b (gn E))
def mjn (K R C : Nat) (E s0 s1 : Int64) (A : Nat → Nat → Int32) : Prop := ∀ p a, p < 2 → a < 512 → A 13 (p * 512 + a) = i32 0 ∨ A 13 (p * 512 + a) = (if jnB K R C p (psn s0 s1 p ||| spr E a (gn E)) = true then i32 2 else i32 1)
def msc (K R C : Nat) (E s0 s1 : Int64) (tu : Nat) (A : Nat → Nat → Int32) : Prop := ∀ a b, a < 512 → b < 512 → a &&& b = 0 → A 14 (cd a b) = i32 0 ∨ A 14 (cd a b) = si (scv K R C E s0 s1 tu a b)
abbrev BP (K R C : Nat) (E s0 s1 : Int64) (tu : Nat) (I : Nat → Nat → Int32) (J : Nat → Nat → Int64) (A : Nat → Nat → Int32) (B : Nat → Nat → Int64) : Prop := CB K R C I J A B ∧ GX E 10 11 I A ∧ (∀ a, a < 512 → A 12 a = i32 (ter a)) ∧ J 9 5 = s0 ∧ J 9 6 = s1 ∧ I 9 7 = i32 tu ∧ mjn K R C E s0 s1 A ∧ msc K R C E s0 s1 tu A
/-- what the searching leaves as it was -/
abbrev F1 (A A' : Nat → Nat → Int32) : Prop := ∀ i, i ≠ 13 → i ≠ 14 → A' i = A i
theorem F1.tr {A A' A'' : Nat → Nat → Int32} (h1 : F1 A A') (h2 : F1 A' A'') : F1 A A'' := fun i a b => by rw [h2 i a b, h1 i a b]
theorem BP.fr {K R C : Nat} {E s0 s1 : Int64} {tu : Nat} {I : Nat → Nat → Int32} {J : Nat → Nat → Int64} {A A' : Nat → Nat → Int32} {B : Nat → Nat → Int64} (h : BP K R C E s0 s1 tu I J A B) (hA : F1 A A') (m1 : mjn K R C E s0 s1 A') (m2 : msc K R C E s0 s1 tu A') : BP K R C E s0 s1 tu I J A' B := by
  obtain ⟨h1, h2, h3, h4, h5, h6, h7, h8⟩ := h
  refine ⟨h1.fr rfl rfl (hA 2 (by decide) (by decide)) (hA 3 (by decide) (by decide)) (hA 4 (by decide) (by decide)) rfl rfl, ⟨h2.1, h2.2.1, fun k hk => ?_⟩, fun a ha => ?_, h4, h5, h6, m1, m2⟩
  · rw [hA 11 (by decide) (by decide)]; exact h2.2.2 k hk
  · rw [hA 12 (by decide) (by decide)]; exact h3 a ha
theorem byte2 : (((i32 2).toInt8.toInt32).toInt8.toInt32) = i32 2 := by decide
theorem byte1 : (((i32 1).toInt8.toInt32).toInt8.toInt32) = i32 1 := by decide
section
variable {K R C : Nat} {E s0 s1 : Int64} {tu : Nat} (e : Nat) (I : Nat → Nat → Int32) (J : Nat → Nat → Int64) (B : Nat → Nat → Int64)
theorem sp_joins (A : Nat → Nat → Int32) (h : BP K R C E s0 s1 tu I J A B) {p a : Nat} (hp : p < 2) (ha : a < 512) : ∃ A', f_X0_joins [.ref 9, .int (i32 p), .int (i32 a)] (79, e, mm_R0, I, J, A, B) = some (.inl (some (.int (bi (jnB K R C p (psn s0 s1 p ||| spr E a (gn E)))))), (79, e, mm_R0, I, J, A', B)) ∧ BP K R C E s0 s1 tu I J A' B ∧ F1 A A' := by
  have h' := h
  obtain ⟨hb, hG, hT, h5, h6, h7, m1, m2⟩ := h'
  have x0 : p * 512 + a < 1024 := by omega
  have key : ∀ s : Int64, s = psn s0 s1 p → A 13 (p * 512 + a) = i32 0 → ∃ A', mm_run (mm_pr tb_X0_joins) (47, [some (.ref 9), some (.int (i32 p)), some (.int (i32 a)), some (.int (i32 (p * 512 + a))), none, none], [.long s], (79, e, mm_R0, I, J, A, B)) = some (.inl (some (.int (bi (jnB K R C p (psn s0 s1 p ||| spr E a (gn E)))))), (79, e, mm_R0, I, J, A', B)) ∧ BP K R C E s0 s1 tu I J A' B ∧ F1 A A' := by
    intro s hs _
    have up : ∀ v : Int32, v = (if jnB K R C p (psn s0 s1 p ||| spr E a (gn E)) = true then i32 2 else i32 1) → BP K R C E s0 s1 tu I J (mm_up A 13 (p * 512 + a) v) B ∧ F1 A (mm_up A 13 (p * 512 + a) v) := by
      intro v hv
      have f1 : F1 A (mm_up A 13 (p * 512 + a) v) := fun i a1 _ => mm_up_row _ _ _ _ _ a1
      refine ⟨h.fr f1 (fun p' a' hp' ha' => ?_) (fun x y hx hy hd => ?_), f1⟩
      · by_cases q : p' * 512 + a' = p * 512 + a
        · have e1 : p' = p := by omega
          have e2 : a' = a := by omega
          subst e1; subst e2
          rw [mm_up_eq]; exact Or.inr hv
        · rw [mm_up_ne2 _ _ _ _ _ _ q]; exact m1 p' a' hp' ha'
      · rw [mm_up_row _ _ _ _ _ (by decide)]; exact m2 x y hx hy hd
    rw [sg_X0_joins_47, sp_spread_10 e I J A B hG (by omega), mm_aft_v, sg_X0_joins_55, hs, sp0_hasJoined e I J A B hb hp, mm_aft_v, sg_X0_joins_73]
    cases hj : jnB K R C p (psn s0 s1 p ||| spr E a (gn E)) with
    | true =>
      refine ⟨mm_up A 13 (p * 512 + a) (i32 2), ?_, (up _ (by rw [hj]; rfl)).1, (up _ (by rw [hj]; rfl)).2⟩
      simp (disch := omega) only [i32_l, iN_l, i32_add, i32_mul, i32_r0, i32_r1, run_bi, run_bi', i32_sub, decide_eq_true_eq, bi_rt, bi_em, bi_0, bi_1, i32_lt, i32_eq, iN_ne, iN_lt, iN_nlt, i32_ix, i32_in,  mm_aft_v, mm_aft_n, mm_aft_x, if_pos, if_neg, ite_true, ite_false, if_true, if_false, not_false_eq_true, not_true_eq_false, sg_X0_joins_81, sg_X0_joins_83, sg_X0_joins_98, byte2, mm_up_eq]
      rfl
    | false =>
      refine ⟨mm_up A 13 (p * 512 + a) (i32 1), ?_, (up _ (by rw [hj]; rfl)).1, (up _ (by rw [hj]; rfl)).2⟩
      simp (disch := omega) only [i32_l, iN_l, i32_add, i32_mul, i32_r0, i32_r1, run_bi, run_bi', i32_sub, decide_eq_true_eq, bi_rt, bi_em, bi_0, bi_1, i32_lt, i32_eq, iN_ne, iN_lt, iN_nlt, i32_ix, i32_in,  mm_aft_v, mm_aft_n, mm_aft_x, if_pos, if_neg, ite_true, ite_false, if_true, if_false, not_false_eq_true, not_true_eq_false, sg_X0_joins_81, sg_X0_joins_83, sg_X0_joins_98, byte1, mm_up_eq, Bool.false_eq_true]
      rfl
  rw [en_X0_joins, sg_X0_joins_0]
  simp (disch := omega) only [i32_l, iN_l, i32_add, i32_mul, i32_r0, i32_r1, run_bi, run_bi', i32_sub, decide_eq_true_eq, bi_rt, bi_em, bi_0, bi_1, i32_lt, i32_eq, iN_ne, iN_lt, iN_nlt, i32_ix, i32_in,  mm_aft_v, mm_aft_n, mm_aft_x, if_pos, if_neg, ite_true, ite_false, if_true, if_false, not_false_eq_true, not_true_eq_false]
  by_cases z : A 13 (p * 512 + a) = i32 0
  · have : p = 0 ∨ p = 1 := by omega
    rcases this with q | q
    · subst q
      obtain ⟨A', k1, k2⟩ := key (J 9 5) h5 z
      refine ⟨A', ?_, k2⟩
      rw [← k1, if_pos z]
      simp (disch := omega) only [i32_l, iN_l, i32_add, i32_mul, i32_r0, i32_r1, run_bi, run_bi', i32_sub, decide_eq_true_eq, bi_rt, bi_em, bi_0, bi_1, i32_lt, i32_eq, iN_ne, iN_lt, iN_nlt, i32_ix, i32_in,  mm_aft_v, mm_aft_n, mm_aft_x, if_pos, if_neg, ite_true, ite_false, if_true, if_false, not_false_eq_true, not_true_eq_false]
    · subst q
      obtain ⟨A', k1, k2⟩ := key (J 9 6) h6 z
      refine ⟨A', ?_, k2⟩
      rw [← k1, if_pos z]
      simp (disch := omega) only [i32_l, iN_l, i32_add, i32_mul, i32_r0, i32_r1, run_bi, run_bi', i32_sub, decide_eq_true_eq, bi_rt, bi_em, bi_0, bi_1, i32_lt, i32_eq, iN_ne, iN_lt, iN_nlt, i32_ix, i32_in,  mm_aft_v, mm_aft_n, mm_aft_x, if_pos, if_neg, ite_true, ite_false, if_true, if_false, not_false_eq_true, not_true_eq_false]
  · have w := (m1 p a hp ha).resolve_left z
    refine ⟨A, ?_, h, fun _ _ _ => rfl⟩
    rw [if_neg z, sg_X0_joins_83]
    simp (disch := omega) only [i32_l, iN_l, i32_add, i32_mul, i32_r0, i32_r1, run_bi, run_bi', i32_sub, decide_eq_true_eq, bi_rt, bi_em, bi_0, bi_1, i32_lt, i32_eq, iN_ne, iN_lt, iN_nlt, i32_ix, i32_in,  mm_aft_v, mm_aft_n, mm_aft_x, if_pos, if_neg, ite_true, ite_false, if_true, if_false, not_false_eq_true, not_true_eq_false, w]
    cases hj : jnB K R C p (psn s0 s1 p ||| spr E a (gn E)) with
    | true => simp (disch := omega) only [i32_l, iN_l, i32_add, i32_mul, i32_r0, i32_r1, run_bi, run_bi', i32_sub, decide_eq_true_eq, bi_rt, bi_em, bi_0, bi_1, i32_lt, i32_eq, iN_ne, iN_lt, iN_nlt, i32_ix, i32_in,  mm_aft_v, mm_aft_n, mm_aft_x, if_pos, if_neg, ite_true, ite_false, if_true, if_false, not_false_eq_true, not_true_eq_false, sg_X0_joins_98]; rfl
    | false => simp (disch := omega) only [i32_l, iN_l, i32_add, i32_mul, i32_r0, i32_r1, run_bi, run_bi', i32_sub, decide_eq_true_eq, bi_rt, bi_em, bi_0, bi_1, i32_lt, i32_eq, iN_ne, iN_lt, iN_nlt, i32_ix, i32_in,  mm_aft_v, mm_aft_n, mm_aft_x, if_pos, if_neg, ite_true, ite_false, if_true, if_false, not_false_eq_true, not_true_eq_false, sg_X0_joins_98, Bool.false_eq_true]; rfl
end
