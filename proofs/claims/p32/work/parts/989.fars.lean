/-! how far it is: both sides' calls -/
section
variable {K R C : Nat} {lg : Nat → Nat} {m : Nat} {sw : Bool}
theorem sN_disj (w : WG K R C lg m sw) {p : Nat} (hp : p < 2) (c : Nat) (h : mb (sN lg m sw p) c = true) : mb (sN lg m sw (1 - p)) c = false := by
  have h64 : ∀ i, i < m → lg i < 64 := fun i hi => by have := w.n36 i hi; omega
  have t : p = 0 ∨ p = 1 := by omega
  rcases t with q | q
  · subst q; exact stN_disj lg (kf sw m) m h64 w.2.2.1 c h
  · subst q
    cases y : mb (sN lg m sw (1 - 1)) c with
    | false => rfl
    | true => rw [stN_disj lg (kf sw m) m h64 w.2.2.1 c y] at h; cases h
theorem emp_p (w : WG K R C lg m sw) {p : Nat} (hp : p < 2) (c : Nat) : mb (emp (bN K R C) (sN lg m sw 0) (sN lg m sw 1)) c = true ↔ (c < bN K R C ∧ mb (sN lg m sw p) c = false ∧ mb (sN lg m sw (1 - p)) c = false) := by
  have hE := emp_EH (bN_le w.1) (sN lg m sw 0) (sN lg m sw 1) c
  have t : p = 0 ∨ p = 1 := by omega
  rcases t with q | q
  · subst q; exact hE
  · subst q
    rw [hE]
    exact ⟨fun z => ⟨z.1, z.2.2, z.2.1⟩, fun z => ⟨z.1, z.2.2, z.2.1⟩⟩
theorem psw_p (w : WG K R C lg m sw) {p : Nat} (hp : p < 2) {c : Nat} (hc : c < bN K R C) : psw (sN lg m sw p) (emp (bN K R C) (sN lg m sw 0) (sN lg m sw 1)) c ↔ mb (sN lg m sw (1 - p)) c = false := by
  constructor
  · rintro (q | q)
    · exact sN_disj w hp c q
    · exact ((emp_p w hp c).1 q).2.2
  · intro q
    cases y : mb (sN lg m sw p) c with
    | true => exact Or.inl y
    | false => exact Or.inr ((emp_p w hp c).2 ⟨hc, y, q⟩)
theorem emp_own (w : WG K R C lg m sw) {p : Nat} (hp : p < 2) (c : Nat) (h1 : mb (sN lg m sw p) c = true) (h2 : mb (emp (bN K R C) (sN lg m sw 0) (sN lg m sw 1)) c = true) : False := by
  rw [((emp_p w hp c).1 h2).2.1] at h1; cases h1
end
section
variable {K R C : Nat} {lg : Nat → Nat} {m : Nat} {sw : Bool} (e : Nat) (I : Nat → Nat → Int32) (J : Nat → Nat → Int64) (A : Nat → Nat → Int32) (B : Nat → Nat → Int64)
theorem cC_far_1 {x : Int32} (hx : plaP x = false) : f_X10_far [.ref 0, .int x] (79, e, mm_R0, I, J, A, B) = some (.inr 1, (79, e + 1, mm_R0, I, J, A, B)) := by
  rw [en_X10_far, sg_X10_far_0, sp_isPlayerP, hx, mm_aft_v, sg_X10_far_4, if_pos (show bi false = 0 from rfl)]
theorem plaP_i {p : Nat} (hp : p < 2) : plaP (i32 p) = true := by
  have t : p = 0 ∨ p = 1 := by omega
  rcases t with q | q <;> (subst q; rfl)
theorem cC_far_3 (h : CG 2 R C lg m sw I J A B) : f_X10_far [.ref 0, .int (i32 1)] (79, e, mm_R0, I, J, A, B) = some (.inr 3, (79, e + 1, mm_R0, I, J, A, B)) := by
  rw [en_X10_far, sg_X10_far_0, sp_isPlayerP, plaP_i (by decide), mm_aft_v, sg_X10_far_4, if_neg (show ¬ bi true = 0 by decide), if_pos (show i32 1 = 1 from rfl), h.1.kind, if_pos (show i32 2 = 2 from rfl)]
theorem cC_far (h : CG K R C lg m sw I J A B) (w : WG K R C lg m sw) {p : Nat} (hp : p < 2) (hk : ¬ (p = 1 ∧ K = 2)) : ∃ A', f_X10_far [.ref 0, .int (i32 p)] (79, e, mm_R0, I, J, A, B) = some (.inl (some (.int (farA K R C p (sN lg m sw p) (emp (bN K R C) (sN lg m sw 0) (sN lg m sw 1))))), (79, e, mm_R0, I, J, A', B)) ∧ BQ K R C I J A' B ∧ FC I I J J A A' B B := by
  have hb := h.1
  have hK := bV_K w.1
  have st : f_X10_far [.ref 0, .int (i32 p)] (79, e, mm_R0, I, J, A, B) = mm_aft (mm_pr tb_X10_far) 68 [some (.ref 0), some (.int (i32 p))] [] (f_X9_fewest [.ref 21, .int (i32 p), .long (sN lg m sw p), .long (emp (bN K R C) (sN lg m sw 0) (sN lg m sw 1))] (79, e, mm_R0, I, J, A, B)) := by
    rw [en_X10_far, sg_X10_far_0, sp_isPlayerP, plaP_i hp, mm_aft_v, sg_X10_far_4, if_neg (show ¬ bi true = 0 by decide)]
    have t45 : mm_run (mm_pr tb_X10_far) (45, [some (.ref 0), some (.int (i32 p))], [], (79, e, mm_R0, I, J, A, B)) = mm_aft (mm_pr tb_X10_far) 68 [some (.ref 0), some (.int (i32 p))] [] (f_X9_fewest [.ref 21, .int (i32 p), .long (sN lg m sw p), .long (emp (bN K R C) (sN lg m sw 0) (sN lg m sw 1))] (79, e, mm_R0, I, J, A, B)) := by
      rw [sg_X10_far_45, sp0_stones e I J A B h hp, mm_aft_v, sg_X10_far_58, sp0_empty e I J A B h, mm_aft_v, sg_X10_far_65]
    rw [t45, hb.kind]
    by_cases q : i32 p = (1 : Int32)
    · rw [if_pos q, if_neg (show ¬ i32 K = (2 : Int32) from fun z => hk ⟨(i32_eq (b := 1) (by omega) (by decide)).1 q, (i32_eq (b := 2) (by omega) (by decide)).1 z⟩)]
    · rw [if_neg q]
  have fin : ∀ A' : Nat → Nat → Int32, (∀ i, i ≠ 22 → A' i = A i) → BQ K R C I J A' B ∧ FC I I J J A A' B B := fun A' f3 =>
    ⟨BQ.fr I J A B h.2.2.2.2.2.1 rfl rfl rfl rfl rfl (f3 2 (by decide)) (f3 3 (by decide)) (f3 4 (by decide)) (f3 11 (by decide)) (f3 12 (by decide)) (f3 13 (by decide)) (f3 14 (by decide)) rfl rfl, ⟨fun _ _ _ _ _ => rfl, fun _ _ _ _ => rfl, fun i _ _ _ _ _ _ g => f3 i g, fun _ => rfl⟩⟩
  have ed := emp_own w hp
  have eN : ∀ c, mb (emp (bN K R C) (sN lg m sw 0) (sN lg m sw 1)) c = true → c < bN K R C := fun c hc => ((emp_p w hp c).1 hc).1
  rw [st]
  generalize emp (bN K R C) (sN lg m sw 0) (sN lg m sw 1) = fr at ed eN ⊢
  have last : ∀ (A' : Nat → Nat → Int32) (x : Nat), x ≤ 1000 → mm_run (mm_pr tb_X9_fewest) (46, [some (.ref 21), some (.int (i32 p)), some (.long (sN lg m sw p)), none, some (.long fr), none, none], [.int (i32 x)], (79, e, mm_R0, I, J, A', B)) = some (.inl (some (.int (if x < 1000 then i32 x else iN))), (79, e, mm_R0, I, J, A', B)) := by
    intro A' x hx
    rw [sg_X9_fewest_46]
    by_cases q : x < 1000
    · rw [if_pos q]
      simp (disch := omega) only [i32_l, iN_l, i32_add, i32_mul, i32_r0, i32_r1, run_bi, run_bi', i32_sub, decide_eq_true_eq, bi_rt, bi_em, bi_0, bi_1, i32_lt, i32_eq, iN_ne, iN_lt, iN_nlt, i32_ix, i32_in,  mm_aft_v, mm_aft_n, mm_aft_x, if_pos, if_neg, ite_true, ite_false, if_true, if_false, not_false_eq_true, not_true_eq_false, q, sg_X9_fewest_62]
    · rw [if_neg q]
      simp (disch := omega) only [i32_l, iN_l, i32_add, i32_mul, i32_r0, i32_r1, run_bi, run_bi', i32_sub, decide_eq_true_eq, bi_rt, bi_em, bi_0, bi_1, i32_lt, i32_eq, iN_ne, iN_lt, iN_nlt, i32_ix, i32_in,  mm_aft_v, mm_aft_n, mm_aft_x, if_pos, if_neg, ite_true, ite_false, if_true, if_false, not_false_eq_true, not_true_eq_false, q, sg_X9_fewest_62]
  by_cases k1 : K = 1
  · obtain ⟨A', a1, a2⟩ := sp_fewest3 e I J B A hb (sN lg m sw p) fr ed eN
    refine ⟨A', ?_, fin A' a2⟩
    unfold farA
    rw [if_pos k1, en_X9_fewest, sg_X9_fewest_0, hb.kind, if_pos (by rw [k1]; rfl), a1, mm_aft_v, sg_X9_fewest_18, last A' (far3 K R C (sN lg m sw p) fr) (mn_le1 _ _ _), mm_aft_v, sg_X10_far_68]
  · have t : p = 0 ∨ p = 1 := by omega
    rcases t with q | q
    · subst q
      obtain ⟨A', a1, a2⟩ := sp_fewest2 e I J B A hb (s := 0) (by decide) (sN lg m sw 0) fr ed eN
      refine ⟨A', ?_, fin A' a2⟩
      unfold farA
      rw [if_neg k1, if_pos rfl, en_X9_fewest, sg_X9_fewest_0, hb.kind, if_neg (show ¬ i32 K = (1 : Int32) from fun z => k1 ((i32_eq (b := 1) (by omega) (by decide)).1 z)), if_pos (show i32 0 = 0 from rfl)]
      simp only [i32_l]
      rw [a1, mm_aft_v, sg_X9_fewest_34, last A' (far2 K R C (sN lg m sw 0) fr 0) (mn_le1 _ _ _), mm_aft_v, sg_X10_far_68]
    · subst q
      obtain ⟨A', a1, a2⟩ := sp_fewest2 e I J B A hb (s := 2) (by decide) (sN lg m sw 1) fr ed eN
      refine ⟨A', ?_, fin A' a2⟩
      unfold farA
      rw [if_neg k1, if_neg (show ¬ (1 : Nat) = 0 by decide), en_X9_fewest, sg_X9_fewest_0, hb.kind, if_neg (show ¬ i32 K = (1 : Int32) from fun z => k1 ((i32_eq (b := 1) (by omega) (by decide)).1 z)), if_neg (show ¬ i32 1 = 0 by decide)]
      simp only [i32_l]
      rw [a1, mm_aft_v, last A' (far2 K R C (sN lg m sw 1) fr 2) (mn_le1 _ _ _), mm_aft_v, sg_X10_far_68]
end
section
variable {K R C : Nat} {lg : Nat → Nat} {m : Nat} {sw : Bool} (k : Nat) (r : Nat → Nat → Value) (e : Nat) (I : Nat → Nat → Int32) (J : Nat → Nat → Int64) (A : Nat → Nat → Int32) (B : Nat → Nat → Int64)
theorem smF_le (h : bN K R C ≤ 36) (own fr : Int64) (s : Nat) (j c : Nat) : smF K R C own fr s j c ≤ 1000 * j := by
  induction j with
  | zero => exact Nat.le_refl _
  | succ j ih =>
    show smF K R C own fr s j c + (dD K R C (bSs K R C (s + j)) own fr c - _) ≤ _
    have := (dD_wt h (bSs K R C (s + j)) own fr c).2
    omega
end
