/-! groups and joining -/
noncomputable def rcB (K R C : Nat) (a w : Int64) : Int64 := rch (bN K R C) (bNb K R C) a w
noncomputable def grF (rc : Int64 → Int64 → Int64) (w : Int64) : Nat → Int64 → Nat
  | 0, _ => 0
  | f + 1, l => if l = 0 then 0 else grF rc w f (l &&& (rc (l &&& (-l)) w ^^^ (-1))) + 1
noncomputable def alF (rc : Int64 → Int64 → Int64) (s1 s2 w : Int64) : Nat → Int64 → Bool
  | 0, _ => false
  | f + 1, l => if l = 0 then false else if rc (l &&& (-l)) w &&& s1 = 0 then alF rc s1 s2 w f (l &&& (rc (l &&& (-l)) w ^^^ (-1))) else if rc (l &&& (-l)) w &&& s2 = 0 then alF rc s1 s2 w f (l &&& (rc (l &&& (-l)) w ^^^ (-1))) else true
theorem grF_0 (rc : Int64 → Int64 → Int64) (w : Int64) (f : Nat) : grF rc w f 0 = 0 := by
  cases f with
  | zero => rfl
  | succ f => show (if (0 : Int64) = 0 then 0 else _) = 0; rw [if_pos rfl]
theorem grF_s (rc : Int64 → Int64 → Int64) (w : Int64) (f : Nat) {l : Int64} (h : ¬ l = 0) : grF rc w (f + 1) l = grF rc w f (l &&& (rc (l &&& (-l)) w ^^^ (-1))) + 1 := by
  show (if l = 0 then 0 else _) = _
  rw [if_neg h]
theorem alF_0 (rc : Int64 → Int64 → Int64) (s1 s2 w : Int64) (f : Nat) : alF rc s1 s2 w f 0 = false := by
  cases f with
  | zero => rfl
  | succ f => show (if (0 : Int64) = 0 then false else _) = false; rw [if_pos rfl]
theorem alF_s (rc : Int64 → Int64 → Int64) (s1 s2 w : Int64) (f : Nat) {l : Int64} (h : ¬ l = 0) : alF rc s1 s2 w (f + 1) l = if rc (l &&& (-l)) w &&& s1 = 0 then alF rc s1 s2 w f (l &&& (rc (l &&& (-l)) w ^^^ (-1))) else if rc (l &&& (-l)) w &&& s2 = 0 then alF rc s1 s2 w f (l &&& (rc (l &&& (-l)) w ^^^ (-1))) else true := by
  show (if l = 0 then false else _) = _
  rw [if_neg h]
noncomputable def ldB (K R C s t : Nat) (w : Int64) : Bool := !decide (rcB K R C (bSs K R C s) w &&& bSs K R C t = 0)
noncomputable def jnB (K R C p : Nat) (w : Int64) : Bool :=
  bif Nat.beq K 1 then alF (rcB K R C) (bSs K R C 1) (bSs K R C 2) w 36 (w &&& bSs K R C 0)
  else bif Nat.beq K 2 && Nat.beq p 1 then !ldB K R C 0 1 ((mbit (bN K R C) - 1) &&& (w ^^^ (-1)))
  else bif Nat.beq p 0 then ldB K R C 0 1 w else ldB K R C 2 3 w
theorem bSs_lt {K R C s c : Nat} (v : bV K R C = true) (h : mb (bSs K R C s) c = true) : c < bN K R C := by
  have := bN_le v
  rw [bSs_p, mb_ms _ _ _ (by omega)] at h
  simp only [Bool.and_eq_true, decide_eq_true_eq] at h
  exact h.1
theorem cf_dec {n : Nat} (hn : n ≤ 36) (nb : Nat → Int64) {l w : Int64} (h0 : l ≠ 0) (hl : ∀ c, mb l c = true → c < n) (hw : ∀ c, mb l c = true → mb w c = true) : cf (mb (l &&& (rch n nb (l &&& (-l)) w ^^^ (-1)))) n < cf (mb l) n := by
  have hk := mlo_mb h0
  have hr : mb (rch n nb (l &&& (-l)) w) (mlo l) = true := by
    rw [mb_rch (by omega)]
    exact .base (hl _ hk) (by rw [mlo_bit h0, mb_bit _ _ (mlo_lt h0)]; simp) (hw _ hk)
  apply cf_lt2 (hl _ hk)
  · rw [mb_and, mb_cpl _ _ (mlo_lt h0), hr]; simp
  · exact hk
  · intro c q
    rw [mb_and] at q
    exact (Bool.and_eq_true_iff.1 q).1
theorem and_lt {l x : Int64} {n : Nat} (hl : ∀ c, mb l c = true → c < n) (c : Nat) (q : mb (l &&& x) c = true) : c < n := by
  rw [mb_and] at q
  exact hl c (Bool.and_eq_true_iff.1 q).1
theorem and_w {l x w : Int64} (hl : ∀ c, mb l c = true → mb w c = true) (c : Nat) (q : mb (l &&& x) c = true) : mb w c = true := by
  rw [mb_and] at q
  exact hl c (Bool.and_eq_true_iff.1 q).1
theorem cf_pos {l : Int64} {n : Nat} (h0 : l ≠ 0) (hl : ∀ c, mb l c = true → c < n) : 1 ≤ cf (mb l) n := by
  have hk := mlo_mb h0
  have : cf (fun _ => false) n < cf (mb l) n := cf_lt2 (hl _ hk) rfl hk (fun c q => by cases q)
  omega
theorem CB.bd {K R C : Nat} {I : Nat → Nat → Int32} {J : Nat → Nat → Int64} {A : Nat → Nat → Int32} {B : Nat → Nat → Int64} (h : CB K R C I J A B) : BD (bN K R C) J B := by
  refine ⟨bN_le h.v, fun c => ?_, fun c d hc q => ?_⟩
  · rw [h.all]; exact mb_all (bN_le h.v) c
  · rw [h.nb c hc] at q
    exact bNb_lt h.v q
section
variable (k : Nat) (r : Nat → Nat → Value) (e : Nat) (I : Nat → Nat → Int32) (J : Nat → Nat → Int64) (A : Nat → Nat → Int32) (B : Nat → Nat → Int64)
theorem sp_reachB {K R C : Nat} (h : CB K R C I J A B) (a w : Int64) : f_X1_reach [.ref 1, .long a, .long w] (k + 7, e, (mm_RB r), I, J, A, B) = some (.inl (some (.long (rcB K R C a w))), (k + 7, e, (mm_RB r), I, J, A, B)) := by
  rw [sp_reach k r e I J A B a w _ h.bd]
  have := bN_le h.v
  rw [rch_congr (nb' := bNb K R C) (by omega) h.nb]
  rfl
theorem sp_sideB {K R C : Nat} (h : CB K R C I J A B) {s : Nat} (hs : s < 4) : f_X1_side [.ref 1, .int (i32 s)] (k + 7, e, (mm_RB r), I, J, A, B) = some (.inl (some (.long (bSs K R C s))), (k + 7, e, (mm_RB r), I, J, A, B)) := by
  rw [sp_side k r e I J A B hs, h.sd s hs]
theorem sp_groups {K R C : Nat} (h : CB K R C I J A B) (w : Int64) (hw : ∀ c, mb w c = true → c < bN K R C) : f_X1_groups [.ref 1, .long w] (k + 7, e, (mm_RB r), I, J, A, B) = some (.inl (some (.int (i32 (grF (rcB K R C) w 36 w)))), (k + 7, e, (mm_RB r), I, J, A, B)) := by
  have hn := bN_le h.v
  have L : ∀ (f g : Nat) (l : Int64), cf (mb l) (bN K R C) ≤ f → g + f = 36 → (∀ c, mb l c = true → c < bN K R C) → (∀ c, mb l c = true → mb w c = true) → mm_run (mm_pr tb_X1_groups) (5, [some (.ref 1), some (.long w), none, some (.int (i32 g)), some (.long l), none], [], (k + 7, e, (mm_RB r), I, J, A, B)) = some (.inl (some (.int (i32 (g + grF (rcB K R C) w f l)))), (k + 7, e, (mm_RB r), I, J, A, B)) := by
    intro f
    induction f with
    | zero =>
      intro g l hc hg h1 h2
      have h0 : l = 0 := by
        apply Classical.byContradiction
        intro q
        have := cf_pos q h1
        omega
      rw [sg_X1_groups_5, if_pos h0, sg_X1_groups_44]
      rfl
    | succ f ih =>
      intro g l hc hg h1 h2
      rw [sg_X1_groups_5]
      by_cases h0 : l = 0
      · rw [if_pos h0, sg_X1_groups_44, h0, grF_0]
        rfl
      · rw [if_neg h0]
        simp (disch := omega) only [i32_l, iN_l, i32_add, i32_mul, i32_r0, i32_r1, run_bi, run_bi', i32_sub, decide_eq_true_eq, bi_rt, bi_em, bi_0, bi_1, i32_lt, i32_eq, iN_ne, iN_lt, iN_nlt, i32_ix, i32_in,  mm_aft_v, mm_aft_n, mm_aft_x, if_pos, if_neg, ite_true, ite_false, if_true, if_false, not_false_eq_true, not_true_eq_false]
        rw [sp_reachB k r e I J A B h, mm_aft_v, sg_X1_groups_31]
        simp (disch := omega) only [i32_l, iN_l, i32_add, i32_mul, i32_r0, i32_r1, run_bi, run_bi', i32_sub, decide_eq_true_eq, bi_rt, bi_em, bi_0, bi_1, i32_lt, i32_eq, iN_ne, iN_lt, iN_nlt, i32_ix, i32_in,  mm_aft_v, mm_aft_n, mm_aft_x, if_pos, if_neg, ite_true, ite_false, if_true, if_false, not_false_eq_true, not_true_eq_false]
        have d := cf_dec hn (bNb K R C) h0 h1 h2
        rw [ih (g + 1) _ (by unfold rcB; omega) (by omega) (and_lt h1) (and_w h2)]
        rw [grF_s _ _ _ h0, Nat.add_assoc g 1, Nat.add_comm 1]
  rw [en_X1_groups, sg_X1_groups_0]
  have hz := L 36 0 w (Nat.le_trans (cf_le _ _) hn) rfl hw (fun c q => q)
  rw [Nat.zero_add] at hz
  exact hz
theorem sp_leads {K R C : Nat} (h : CB K R C I J A B) {s t : Nat} (hs : s < 4) (ht : t < 4) (w : Int64) : f_X1_leads [.ref 1, .int (i32 s), .int (i32 t), .long w] (k + 7, e, (mm_RB r), I, J, A, B) = some (.inl (some (.int (bi (ldB K R C s t w)))), (k + 7, e, (mm_RB r), I, J, A, B)) := by
  rw [en_X1_leads, sg_X1_leads_0, sp_sideB k r e I J A B h hs, mm_aft_v, sg_X1_leads_6, sp_reachB k r e I J A B h, mm_aft_v, sg_X1_leads_10, sp_sideB k r e I J A B h ht, mm_aft_v, sg_X1_leads_15]
  simp (disch := omega) only [i32_l, iN_l, i32_add, i32_mul, i32_r0, i32_r1, run_bi, run_bi', i32_sub, decide_eq_true_eq, bi_rt, bi_em, bi_0, bi_1, i32_lt, i32_eq, iN_ne, iN_lt, iN_nlt, i32_ix, i32_in,  mm_aft_v, mm_aft_n, mm_aft_x, if_pos, if_neg, ite_true, ite_false, if_true, if_false, not_false_eq_true, not_true_eq_false]
  rw [sg_X1_leads_26]
  simp (disch := omega) only [i32_l, iN_l, i32_add, i32_mul, i32_r0, i32_r1, run_bi, run_bi', i32_sub, decide_eq_true_eq, bi_rt, bi_em, bi_0, bi_1, i32_lt, i32_eq, iN_ne, iN_lt, iN_nlt, i32_ix, i32_in,  mm_aft_v, mm_aft_n, mm_aft_x, if_pos, if_neg, ite_true, ite_false, if_true, if_false, not_false_eq_true, not_true_eq_false]
  rfl
theorem sp_allSides {K R C : Nat} (h : CB K R C I J A B) (w : Int64) : f_X1_isAtAllSides [.ref 1, .long w] (k + 7, e, (mm_RB r), I, J, A, B) = some (.inl (some (.int (bi (alF (rcB K R C) (bSs K R C 1) (bSs K R C 2) w 36 (w &&& bSs K R C 0))))), (k + 7, e, (mm_RB r), I, J, A, B)) := by
  have hn := bN_le h.v
  have L : ∀ (f g : Nat) (l : Int64) (o6 o7 : Option Value), cf (mb l) (bN K R C) ≤ f → g + f = 36 → (∀ c, mb l c = true → c < bN K R C) → (∀ c, mb l c = true → mb w c = true) → mm_run (mm_pr tb_X1_isAtAllSides) (11, [some (.ref 1), some (.long w), none, some (.long l), none, some (.int (i32 g)), o6, o7], [], (k + 7, e, (mm_RB r), I, J, A, B)) = some (.inl (some (.int (bi (alF (rcB K R C) (bSs K R C 1) (bSs K R C 2) w f l)))), (k + 7, e, (mm_RB r), I, J, A, B)) := by
    intro f
    induction f with
    | zero =>
      intro g l o6 o7 hc hg h1 h2
      rw [sg_X1_isAtAllSides_11]
      simp (disch := omega) only [i32_l, iN_l, i32_add, i32_mul, i32_r0, i32_r1, run_bi, run_bi', i32_sub, decide_eq_true_eq, bi_rt, bi_em, bi_0, bi_1, i32_lt, i32_eq, iN_ne, iN_lt, iN_nlt, i32_ix, i32_in,  mm_aft_v, mm_aft_n, mm_aft_x, if_pos, if_neg, ite_true, ite_false, if_true, if_false, not_false_eq_true, not_true_eq_false, sg_X1_isAtAllSides_78]
      rfl
    | succ f ih =>
      intro g l o6 o7 hc hg h1 h2
      rw [sg_X1_isAtAllSides_11]
      by_cases h0 : l = 0
      · simp (disch := omega) only [i32_l, iN_l, i32_add, i32_mul, i32_r0, i32_r1, run_bi, run_bi', i32_sub, decide_eq_true_eq, bi_rt, bi_em, bi_0, bi_1, i32_lt, i32_eq, iN_ne, iN_lt, iN_nlt, i32_ix, i32_in,  mm_aft_v, mm_aft_n, mm_aft_x, if_pos, if_neg, ite_true, ite_false, if_true, if_false, not_false_eq_true, not_true_eq_false, h0, sg_X1_isAtAllSides_78]
        rw [alF_0]; rfl
      · have d := cf_dec hn (bNb K R C) h0 h1 h2
        have ih' := fun o6 o7 => ih (g + 1) (l &&& (rcB K R C (l &&& (-l)) w ^^^ (-1))) o6 o7 (by unfold rcB; omega) (by omega) (and_lt h1) (and_w h2)
        simp (disch := omega) only [i32_l, iN_l, i32_add, i32_mul, i32_r0, i32_r1, run_bi, run_bi', i32_sub, decide_eq_true_eq, bi_rt, bi_em, bi_0, bi_1, i32_lt, i32_eq, iN_ne, iN_lt, iN_nlt, i32_ix, i32_in,  mm_aft_v, mm_aft_n, mm_aft_x, if_pos, if_neg, ite_true, ite_false, if_true, if_false, not_false_eq_true, not_true_eq_false, h0]
        rw [sp_reachB k r e I J A B h, mm_aft_v, sg_X1_isAtAllSides_33]
        simp only [i32_l]
        rw [sp_sideB k r e I J A B h (by decide), mm_aft_v, sg_X1_isAtAllSides_42]
        rw [alF_s _ _ _ _ _ h0]
        by_cases h3 : rcB K R C (l &&& (-l)) w &&& bSs K R C 1 = 0
        · rw [if_pos h3, if_pos h3, sg_X1_isAtAllSides_63]
          simp (disch := omega) only [i32_l, iN_l, i32_add, i32_mul, i32_r0, i32_r1, run_bi, run_bi', i32_sub, decide_eq_true_eq, bi_rt, bi_em, bi_0, bi_1, i32_lt, i32_eq, iN_ne, iN_lt, iN_nlt, i32_ix, i32_in,  mm_aft_v, mm_aft_n, mm_aft_x, if_pos, if_neg, ite_true, ite_false, if_true, if_false, not_false_eq_true, not_true_eq_false]
          exact ih' _ _
        · rw [if_neg h3, if_neg h3]
          simp only [i32_l]
          rw [sp_sideB k r e I J A B h (by decide), mm_aft_v, sg_X1_isAtAllSides_55]
          by_cases h4 : rcB K R C (l &&& (-l)) w &&& bSs K R C 2 = 0
          · rw [if_pos h4, if_pos h4, sg_X1_isAtAllSides_63]
            simp (disch := omega) only [i32_l, iN_l, i32_add, i32_mul, i32_r0, i32_r1, run_bi, run_bi', i32_sub, decide_eq_true_eq, bi_rt, bi_em, bi_0, bi_1, i32_lt, i32_eq, iN_ne, iN_lt, iN_nlt, i32_ix, i32_in,  mm_aft_v, mm_aft_n, mm_aft_x, if_pos, if_neg, ite_true, ite_false, if_true, if_false, not_false_eq_true, not_true_eq_false]
            exact ih' _ _
          · rw [if_neg h4, if_neg h4]; rfl
  rw [en_X1_isAtAllSides, sg_X1_isAtAllSides_0]
  simp only [i32_l]
  rw [sp_sideB k r e I J A B h (by decide), mm_aft_v, sg_X1_isAtAllSides_6]
  simp only [i32_l]
  have hl : ∀ c, mb (w &&& bSs K R C 0) c = true → c < bN K R C := by
    intro c q
    rw [mb_and] at q
    exact bSs_lt h.v (Bool.and_eq_true_iff.1 q).2
  exact L 36 0 _ _ _ (Nat.le_trans (cf_le _ _) hn) rfl hl (fun c q => by
    rw [mb_and] at q
    exact (Bool.and_eq_true_iff.1 q).1)
theorem sp_hasJoined {K R C : Nat} (h : CB K R C I J A B) {p : Nat} (hp : p < 2) (w : Int64) : f_X1_hasJoined [.ref 1, .int (i32 p), .long w] (k + 7, e, (mm_RB r), I, J, A, B) = some (.inl (some (.int (bi (jnB K R C p w)))), (k + 7, e, (mm_RB r), I, J, A, B)) := by
  have hk := bV_K h.v
  rw [en_X1_hasJoined, sg_X1_hasJoined_0, h.kind]
  unfold jnB
  have hP : p = 0 ∨ p = 1 := by omega
  have hK : K = 0 ∨ K = 1 ∨ K = 2 := by omega
  rcases hK with q | q | q
  · subst q
    rcases hP with q2 | q2
    · subst q2
      simp (disch := omega) only [i32_l, iN_l, i32_add, i32_mul, i32_r0, i32_r1, run_bi, run_bi', i32_sub, decide_eq_true_eq, bi_rt, bi_em, bi_0, bi_1, i32_lt, i32_eq, iN_ne, iN_lt, iN_nlt, i32_ix, i32_in,  mm_aft_v, mm_aft_n, mm_aft_x, if_pos, if_neg, ite_true, ite_false, if_true, if_false, not_false_eq_true, not_true_eq_false, sg_X1_hasJoined_52]
      rw [sp_leads k r e I J A B h (by decide) (by decide), mm_aft_v, sg_X1_hasJoined_63, sg_X1_hasJoined_73]
      simp (disch := omega) only [i32_l, iN_l, i32_add, i32_mul, i32_r0, i32_r1, run_bi, run_bi', i32_sub, decide_eq_true_eq, bi_rt, bi_em, bi_0, bi_1, i32_lt, i32_eq, iN_ne, iN_lt, iN_nlt, i32_ix, i32_in,  mm_aft_v, mm_aft_n, mm_aft_x, if_pos, if_neg, ite_true, ite_false, if_true, if_false, not_false_eq_true, not_true_eq_false]
      rfl
    · subst q2
      simp (disch := omega) only [i32_l, iN_l, i32_add, i32_mul, i32_r0, i32_r1, run_bi, run_bi', i32_sub, decide_eq_true_eq, bi_rt, bi_em, bi_0, bi_1, i32_lt, i32_eq, iN_ne, iN_lt, iN_nlt, i32_ix, i32_in,  mm_aft_v, mm_aft_n, mm_aft_x, if_pos, if_neg, ite_true, ite_false, if_true, if_false, not_false_eq_true, not_true_eq_false, sg_X1_hasJoined_52]
      rw [sp_leads k r e I J A B h (by decide) (by decide), mm_aft_v, sg_X1_hasJoined_73]
      simp (disch := omega) only [i32_l, iN_l, i32_add, i32_mul, i32_r0, i32_r1, run_bi, run_bi', i32_sub, decide_eq_true_eq, bi_rt, bi_em, bi_0, bi_1, i32_lt, i32_eq, iN_ne, iN_lt, iN_nlt, i32_ix, i32_in,  mm_aft_v, mm_aft_n, mm_aft_x, if_pos, if_neg, ite_true, ite_false, if_true, if_false, not_false_eq_true, not_true_eq_false]
      rfl
  · subst q
    simp (disch := omega) only [i32_l, iN_l, i32_add, i32_mul, i32_r0, i32_r1, run_bi, run_bi', i32_sub, decide_eq_true_eq, bi_rt, bi_em, bi_0, bi_1, i32_lt, i32_eq, iN_ne, iN_lt, iN_nlt, i32_ix, i32_in,  mm_aft_v, mm_aft_n, mm_aft_x, if_pos, if_neg, ite_true, ite_false, if_true, if_false, not_false_eq_true, not_true_eq_false]
    rw [sp_allSides k r e I J A B h, mm_aft_v, sg_X1_hasJoined_13]
    simp (disch := omega) only [i32_l, iN_l, i32_add, i32_mul, i32_r0, i32_r1, run_bi, run_bi', i32_sub, decide_eq_true_eq, bi_rt, bi_em, bi_0, bi_1, i32_lt, i32_eq, iN_ne, iN_lt, iN_nlt, i32_ix, i32_in,  mm_aft_v, mm_aft_n, mm_aft_x, if_pos, if_neg, ite_true, ite_false, if_true, if_false, not_false_eq_true, not_true_eq_false]
    rfl
  · subst q
    rcases hP with q2 | q2
    · subst q2
      simp (disch := omega) only [i32_l, iN_l, i32_add, i32_mul, i32_r0, i32_r1, run_bi, run_bi', i32_sub, decide_eq_true_eq, bi_rt, bi_em, bi_0, bi_1, i32_lt, i32_eq, iN_ne, iN_lt, iN_nlt, i32_ix, i32_in,  mm_aft_v, mm_aft_n, mm_aft_x, if_pos, if_neg, ite_true, ite_false, if_true, if_false, not_false_eq_true, not_true_eq_false, sg_X1_hasJoined_52]
      rw [sp_leads k r e I J A B h (by decide) (by decide), mm_aft_v, sg_X1_hasJoined_63, sg_X1_hasJoined_73]
      simp (disch := omega) only [i32_l, iN_l, i32_add, i32_mul, i32_r0, i32_r1, run_bi, run_bi', i32_sub, decide_eq_true_eq, bi_rt, bi_em, bi_0, bi_1, i32_lt, i32_eq, iN_ne, iN_lt, iN_nlt, i32_ix, i32_in,  mm_aft_v, mm_aft_n, mm_aft_x, if_pos, if_neg, ite_true, ite_false, if_true, if_false, not_false_eq_true, not_true_eq_false]
      rfl
    · subst q2
      simp (disch := omega) only [i32_l, iN_l, i32_add, i32_mul, i32_r0, i32_r1, run_bi, run_bi', i32_sub, decide_eq_true_eq, bi_rt, bi_em, bi_0, bi_1, i32_lt, i32_eq, iN_ne, iN_lt, iN_nlt, i32_ix, i32_in,  mm_aft_v, mm_aft_n, mm_aft_x, if_pos, if_neg, ite_true, ite_false, if_true, if_false, not_false_eq_true, not_true_eq_false]
      rw [sp_leads k r e I J A B h (by decide) (by decide), mm_aft_v, sg_X1_hasJoined_43]
      simp (disch := omega) only [i32_l, iN_l, i32_add, i32_mul, i32_r0, i32_r1, run_bi, run_bi', i32_sub, decide_eq_true_eq, bi_rt, bi_em, bi_0, bi_1, i32_lt, i32_eq, iN_ne, iN_lt, iN_nlt, i32_ix, i32_in,  mm_aft_v, mm_aft_n, mm_aft_x, if_pos, if_neg, ite_true, ite_false, if_true, if_false, not_false_eq_true, not_true_eq_false]
      rw [h.all, sg_X1_hasJoined_51]
      show _ = some (Sum.inl (some (Value.int (bi (!ldB 2 R C 0 1 ((mbit (bN 2 R C) - 1) &&& (w ^^^ (-1))))))), _)
      generalize ldB 2 R C 0 1 ((mbit (bN 2 R C) - 1) &&& (w ^^^ (-1))) = b
      cases b
      · simp (disch := omega) only [i32_l, iN_l, i32_add, i32_mul, i32_r0, i32_r1, run_bi, run_bi', i32_sub, decide_eq_true_eq, bi_rt, bi_em, bi_0, bi_1, i32_lt, i32_eq, iN_ne, iN_lt, iN_nlt, i32_ix, i32_in,  mm_aft_v, mm_aft_n, mm_aft_x, if_pos, if_neg, ite_true, ite_false, if_true, if_false, not_false_eq_true, not_true_eq_false, Bool.false_eq_true, decide_true, decide_false]; rfl
      · simp (disch := omega) only [i32_l, iN_l, i32_add, i32_mul, i32_r0, i32_r1, run_bi, run_bi', i32_sub, decide_eq_true_eq, bi_rt, bi_em, bi_0, bi_1, i32_lt, i32_eq, iN_ne, iN_lt, iN_nlt, i32_ix, i32_in,  mm_aft_v, mm_aft_n, mm_aft_x, if_pos, if_neg, ite_true, ite_false, if_true, if_false, not_false_eq_true, not_true_eq_false, decide_true, decide_false]; rfl
end
