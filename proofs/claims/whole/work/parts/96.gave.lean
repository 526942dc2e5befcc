/-! moves that gave a win away -/
theorem i32_cases (x : Int32) : x < i32 0 ∨ ∃ n, n < 2147483648 ∧ x = i32 n := by
  by_cases h : x.toInt < 0
  · left
    rw [Int32.lt_iff_toInt_lt, i32_toInt (by decide)]
    exact h
  · right
    have hl := Int32.toInt_lt x
    refine ⟨x.toInt.toNat, by omega, ?_⟩
    apply Int32.toInt_inj.1
    rw [i32_toInt (by omega)]
    omega
theorem blt_t {a b : Nat} (h : a < b) : Nat.blt a b = true := by rw [Nat.blt_eq]; exact h
theorem blt_f {a b : Nat} (h : ¬ a < b) : Nat.blt a b = false := bool_f (by rw [Nat.blt_eq]; exact h)
theorem kf_t {n : Nat} (h : 1 < n) : kf true n = 1 := by unfold kf; rw [blt_t h]; rfl
theorem kf_n {sw : Bool} {n : Nat} (h : ¬ 1 < n) : kf sw n = 0 := by unfold kf; rw [blt_f h, Bool.and_false]; rfl
theorem kf_f (n : Nat) : kf false n = 0 := rfl
theorem kf_sn {sw : Bool} {n : Nat} (hs : ¬ (sw = true ∧ n = 1)) : kf sw (n + 1) = kf sw n := by
  cases sw with
  | false => rfl
  | true =>
    have : n ≠ 1 := fun z => hs ⟨rfl, z⟩
    by_cases q : 1 < n
    · rw [kf_t q, kf_t (by omega)]
    · rw [kf_n q, kf_n (by omega)]
theorem Dst_pre {lg : Nat → Nat} {m n : Nat} {sw : Bool} (h : Dst lg (kf sw m) m) (hn : n ≤ m) : Dst lg (kf sw n) n := by
  intro i j h1 h2 h3
  refine h i j ?_ h2 (by omega)
  cases sw with
  | false => rw [kf_f]; omega
  | true =>
    by_cases q : 1 < n
    · rw [kf_t q] at h1
      rw [kf_t (by omega)]; exact h1
    · omega
/-- the stones ahead of a move -/
abbrev aS (lg : Nat → Nat) (sw : Bool) (n p : Nat) : Int64 := stN lg (kf sw n) p n
theorem aS_s {lg : Nat → Nat} {sw : Bool} {n p : Nat} (hs : ¬ (sw = true ∧ n = 1)) : aS lg sw (n + 1) p = pt (n % 2) p (lg n) (aS lg sw n p) := by
  have k1 := kf_sn hs
  show stN lg (kf sw (n + 1)) p (n + 1) = _
  rw [k1]
  have kl := (kf_le sw n).2
  show stN lg (kf sw n) p n ||| (if kf sw n ≤ n ∧ n % 2 = p then mbit (lg n) else 0) = _
  unfold pt
  by_cases q : n % 2 = p
  · rw [if_pos ⟨kl, q⟩, if_pos q]
  · rw [if_neg (fun z => q z.2), if_neg q, or_zero64]
theorem gn_aS {K R C : Nat} {lg : Nat → Nat} {m : Nat} {sw : Bool} (w : WG K R C lg m sw) {n : Nat} (hn : n ≤ m) : gn (emp (bN K R C) (aS lg sw n 0) (aS lg sw n 1)) + (n - kf sw n) = bN K R C := gn_cnt w.1 (fun i hi => w.2.1 i (by omega)) (Dst_pre w.2.2.1 hn) (kf_le sw n).2
theorem gn_aS1 {K R C : Nat} {lg : Nat → Nat} {m : Nat} {sw : Bool} (w : WG K R C lg m sw) {n : Nat} (hn : n < m) (hs : ¬ (sw = true ∧ n = 1)) : gn (emp (bN K R C) (aS lg sw (n + 1) 0) (aS lg sw (n + 1) 1)) + 1 = gn (emp (bN K R C) (aS lg sw n 0) (aS lg sw n 1)) := by
  have a := gn_aS w (show n ≤ m by omega)
  have b := gn_aS w (show n + 1 ≤ m by omega)
  have k0 := kf_le sw n
  have k1 := kf_le sw (n + 1)
  have := kf_sn hs
  omega
theorem mcnt_aS {K R C : Nat} {lg : Nat → Nat} {m : Nat} {sw : Bool} (w : WG K R C lg m sw) {n : Nat} (hn : n ≤ m) : mcnt (aS lg sw n 0 ||| aS lg sw n 1) = n - kf sw n := by
  have h36 : ∀ i, i < n → lg i < 36 := fun i hi => w.n36 i (by omega)
  rw [mcnt_cf, ← stN_cnt n h36 (Dst_pre w.2.2.1 hn) (kf_le sw n).2]
  rw [show cf (mb (aS lg sw n 0 ||| aS lg sw n 1)) 64 = cf (mb (aS lg sw n 0 ||| aS lg sw n 1)) 36 from cf_stop (fun c hc => bool_f (fun z => by
    rw [mb_or] at z
    obtain ⟨i, a, _, d⟩ := (mb_st01 h36 c).1 z
    have := h36 i a
    omega)) (by decide)]
  exact cf_congr (fun c _ => mb_or _ _ _)
noncomputable def gvV (K R C : Nat) (lg : Nat → Nat) (sw : Bool) (n : Nat) : Bool := decide (bestV K R C (aS lg sw n 0) (aS lg sw n 1) (n % 2) = n % 2) && !decide (bestV K R C (aS lg sw (n + 1) 0) (aS lg sw (n + 1) 1) (1 - n % 2) = n % 2)
theorem bestV_lt {K R C : Nat} {s0 s1 : Int64} {tu : Nat} (ht : tu < 2) : bestV K R C s0 s1 tu < 2 := by
  unfold bestV
  split
  · omega
  · split
    · omega
    · split <;> omega
section
variable {K R C : Nat} {lg : Nat → Nat} {m : Nat} {sw : Bool} (e : Nat) (I : Nat → Nat → Int32) (J : Nat → Nat → Int64) (A : Nat → Nat → Int32) (B : Nat → Nat → Int64)
theorem sp0_stonesAhead (h : PL lg m sw I A) {number p : Nat} (hn : number ≤ m) (hp : p < 2) : f_X6_stonesAhead [.ref 7, .int (i32 number), .int (i32 p)] (65, e, mm_R0, I, J, A, B) = some (.inl (some (.long (aS lg sw number p))), (65, e, mm_R0, I, J, A, B)) := by
  have := sp_stonesAhead 56 mm_R0 e I J A B h hn hp
  rw [mm_RP_0] at this
  exact this
theorem cC_gave_1 (h : CG K R C lg m sw I J A B) {x : Int32} (hx : x < i32 0 ∨ ∃ n, n < 2147483648 ∧ x = i32 n ∧ m ≤ n) : f_X10_gaveAway [.ref 0, .int x] (65, e, mm_R0, I, J, A, B) = some (.inr 1, (65, e + 1, mm_R0, I, J, A, B)) := by
  have hm := h.2.1.1
  have m37 := h.2.1.2.2.1
  rw [en_X10_gaveAway, sg_X10_gaveAway_0, hm]
  simp only [i32_l]
  rcases hx with q | ⟨n, n1, n2, n3⟩
  · rw [if_pos q, sg_X10_gaveAway_15]
  · subst n2
    simp (disch := omega) only [i32_l, iN_l, i32_add, i32_mul, i32_r0, i32_r1, run_bi, run_bi', i32_sub, decide_eq_true_eq, bi_rt, bi_em, bi_0, bi_1, i32_lt, i32_eq, iN_ne, iN_lt, iN_nlt, i32_ix, i32_in,  mm_aft_v, mm_aft_n, mm_aft_x, if_pos, if_neg, ite_true, ite_false, if_true, if_false, not_false_eq_true, not_true_eq_false, sg_X10_gaveAway_15]
theorem cC_gave_2 (h : CG K R C lg m sw I J A B) (hn : 1 < m) (hs : sw = true) : f_X10_gaveAway [.ref 0, .int (i32 1)] (65, e, mm_R0, I, J, A, B) = some (.inr 2, (65, e + 1, mm_R0, I, J, A, B)) := by
  have hm := h.2.1.1
  have m37 := h.2.1.2.2.1
  have h3 := h.2.1.2.1
  rw [en_X10_gaveAway, sg_X10_gaveAway_0, hm, h3, hs]
  simp (disch := omega) only [i32_l, iN_l, i32_add, i32_mul, i32_r0, i32_r1, run_bi, run_bi', i32_sub, decide_eq_true_eq, bi_rt, bi_em, bi_0, bi_1, i32_lt, i32_eq, iN_ne, iN_lt, iN_nlt, i32_ix, i32_in,  mm_aft_v, mm_aft_n, mm_aft_x, if_pos, if_neg, ite_true, ite_false, if_true, if_false, not_false_eq_true, not_true_eq_false]
theorem gave_50 (h : CG K R C lg m sw I J A B) (w : WG K R C lg m sw) {n : Nat} (hn : n < m) (hs : ¬ (sw = true ∧ n = 1)) : f_X10_gaveAway [.ref 0, .int (i32 n)] (65, e, mm_R0, I, J, A, B) = mm_run (mm_pr tb_X10_gaveAway) (85, [some (.ref 0), some (.int (i32 n)), some (.long (aS lg sw n 0)), none, some (.long (aS lg sw n 1)), none, none, none, none, none, none], [.int (i32 (n - kf sw n)), .int (i32 (bN K R C))], (65, e, mm_R0, I, J, A, B)) := by
  have hm := h.2.1.1
  have m37 := h.2.1.2.2.1
  have h3 := h.2.1.2.1
  have go : mm_run (mm_pr tb_X10_gaveAway) (50, [some (.ref 0), some (.int (i32 n)), none, none, none, none, none, none, none, none, none], [], (65, e, mm_R0, I, J, A, B)) = mm_run (mm_pr tb_X10_gaveAway) (85, [some (.ref 0), some (.int (i32 n)), some (.long (aS lg sw n 0)), none, some (.long (aS lg sw n 1)), none, none, none, none, none, none], [.int (i32 (n - kf sw n)), .int (i32 (bN K R C))], (65, e, mm_R0, I, J, A, B)) := by
    rw [sg_X10_gaveAway_50]
    simp only [i32_l]
    rw [sp0_stonesAhead e I J A B h.2.1 (by omega) (by decide), mm_aft_v, sg_X10_gaveAway_59]
    simp only [i32_l]
    rw [sp0_stonesAhead e I J A B h.2.1 (by omega) (by decide), mm_aft_v, sg_X10_gaveAway_69, sp_bitCount, mm_aft_v, mcnt_aS w (by omega), h.1.cells]
  rw [en_X10_gaveAway, sg_X10_gaveAway_0, hm, h3]
  by_cases q1 : n = 1
  · have : sw = false := bool_f (fun z => hs ⟨z, q1⟩)
    rw [← go, this]
    simp (disch := omega) only [i32_l, iN_l, i32_add, i32_mul, i32_r0, i32_r1, run_bi, run_bi', i32_sub, decide_eq_true_eq, bi_rt, bi_em, bi_0, bi_1, i32_lt, i32_eq, iN_ne, iN_lt, iN_nlt, i32_ix, i32_in,  mm_aft_v, mm_aft_n, mm_aft_x, if_pos, if_neg, ite_true, ite_false, if_true, if_false, not_false_eq_true, not_true_eq_false, q1, Bool.false_eq_true]
  · rw [← go]
    simp (disch := omega) only [i32_l, iN_l, i32_add, i32_mul, i32_r0, i32_r1, run_bi, run_bi', i32_sub, decide_eq_true_eq, bi_rt, bi_em, bi_0, bi_1, i32_lt, i32_eq, iN_ne, iN_lt, iN_nlt, i32_ix, i32_in,  mm_aft_v, mm_aft_n, mm_aft_x, if_pos, if_neg, ite_true, ite_false, if_true, if_false, not_false_eq_true, not_true_eq_false, q1]
theorem cC_gave_3 (h : CG K R C lg m sw I J A B) (w : WG K R C lg m sw) {n : Nat} (hn : n < m) (hs : ¬ (sw = true ∧ n = 1)) (hg : ¬ gn (emp (bN K R C) (aS lg sw n 0) (aS lg sw n 1)) ≤ 9) : f_X10_gaveAway [.ref 0, .int (i32 n)] (65, e, mm_R0, I, J, A, B) = some (.inr 3, (65, e + 1, mm_R0, I, J, A, B)) := by
  have g := gn_aS w (show n ≤ m by omega)
  have N := bN_le w.1
  rw [gave_50 e I J A B h w hn hs, sg_X10_gaveAway_85]
  simp (disch := omega) only [i32_l, iN_l, i32_add, i32_mul, i32_r0, i32_r1, run_bi, run_bi', i32_sub, decide_eq_true_eq, bi_rt, bi_em, bi_0, bi_1, i32_lt, i32_eq, iN_ne, iN_lt, iN_nlt, i32_ix, i32_in,  mm_aft_v, mm_aft_n, mm_aft_x, if_pos, if_neg, ite_true, ite_false, if_true, if_false, not_false_eq_true, not_true_eq_false]
theorem cC_gave (h : CG K R C lg m sw I J A B) (w : WG K R C lg m sw) {n : Nat} (hn : n < m) (hs : ¬ (sw = true ∧ n = 1)) (hg : gn (emp (bN K R C) (aS lg sw n 0) (aS lg sw n 1)) ≤ 9) : ∃ I' J' A', f_X10_gaveAway [.ref 0, .int (i32 n)] (65, e, mm_R0, I, J, A, B) = some (.inl (some (.int (bi (gvV K R C lg sw n)))), (65, e, mm_R0, I', J', A', B)) ∧ BQ K R C I' J' A' B ∧ FC I I' J J' A A' B B := by
  have g := gn_aS w (show n ≤ m by omega)
  have g1 := gn_aS1 w hn hs
  have N := bN_le w.1
  have m37 := h.2.1.2.2.1
  obtain ⟨I1, J1, A1, a1, a2, a3⟩ := sp_winnerOf e B I J A h.1 h.2.2.2.2.2.1 (aS lg sw n 0) (aS lg sw n 1) (show n % 2 < 2 by omega) hg
  have h2 := h.fr (FC.of2 (B := B) a3) a2
  have bl := bestV_lt (K := K) (R := R) (C := C) (s0 := aS lg sw n 0) (s1 := aS lg sw n 1) (tu := n % 2) (by omega)
  rw [gave_50 e I J A B h w hn hs, sg_X10_gaveAway_85]
  simp only [i32_l]
  rw [i32_sub (by omega), if_neg (by rw [i32_lt (by decide) (by omega)]; omega), i32_and1 (by omega), a1, mm_aft_v, sg_X10_gaveAway_118]
  by_cases q : bestV K R C (aS lg sw n 0) (aS lg sw n 1) (n % 2) = n % 2
  · obtain ⟨I2, J2, A2, b1, b2, b3⟩ := sp_winnerOf e B I1 J1 A1 h2.1 a2 (aS lg sw (n + 1) 0) (aS lg sw (n + 1) 1) (tu := 1 - n % 2) (by omega) (by omega)
    have bl2 := bestV_lt (K := K) (R := R) (C := C) (s0 := aS lg sw (n + 1) 0) (s1 := aS lg sw (n + 1) 1) (tu := 1 - n % 2) (by omega)
    refine ⟨I2, J2, A2, ?_, b2, (FC.of2 (B := B) a3).tr (FC.of2 b3)⟩
    rw [if_pos (by rw [q])]
    simp only [i32_l]
    rw [i32_add, sp0_stonesAhead e I1 J1 A1 B h2.2.1 (by omega) (by decide), mm_aft_v, sg_X10_gaveAway_136]
    simp only [i32_l]
    rw [i32_add, sp0_stonesAhead e I1 J1 A1 B h2.2.1 (by omega) (by decide), mm_aft_v, sg_X10_gaveAway_149]
    simp only [i32_l]
    rw [i32_sub (by omega), b1, mm_aft_v, sg_X10_gaveAway_166]
    unfold gvV
    rw [decide_eq_true q, Bool.true_and]
    by_cases q2 : bestV K R C (aS lg sw (n + 1) 0) (aS lg sw (n + 1) 1) (1 - n % 2) = n % 2
    · rw [if_pos (by rw [q2]), sg_X10_gaveAway_176, decide_eq_true q2, if_pos (Or.inl rfl)]; rfl
    · rw [if_neg (by rw [i32_eq (by omega) (by omega)]; exact q2), sg_X10_gaveAway_176, decide_eq_false q2, if_pos (Or.inr rfl)]; rfl
  · refine ⟨I1, J1, A1, ?_, a2, FC.of2 a3⟩
    unfold gvV
    rw [if_neg (by rw [i32_eq (by omega) (by omega)]; exact q), decide_eq_false q, Bool.false_and]
    rfl
end
section
variable {K R C : Nat} {lg : Nat → Nat} {m : Nat} {sw : Bool} (k : Nat) (r : Nat → Nat → Value) (e : Nat) (I : Nat → Nat → Int32) (J : Nat → Nat → Int64) (A : Nat → Nat → Int32) (B : Nat → Nat → Int64)
theorem gave_15 (h : MG K R C lg m sw I A B) (hm0 : 0 < m) {n : Nat} (hn : n < m) : f_X11_gaveAway [.ref 39, .int (i32 n)] (k + 64, e, (mm_RM r), I, J, A, B) = mm_run (mm_pr tb_X11_gaveAway) (15, [some (.ref 39), some (.int (i32 n)), none, none, none, none, none, none, none, none], [.int (i32 1)], (k + 64, e, (mm_RM r), mm_up I 39 39 (i32 0), J, A, B)) := by
  have hm := h.2.1.1
  have m37 := h.2.1.2.2.1
  rw [en_X11_gaveAway, sg_X11_gaveAway_0, hm]
  simp only [i32_l]
  rw [i32_sub (by omega), sp_Min, mm_aft_v, sg_X11_gaveAway_12]
  rw [show (!decide (i32 n < i32 0) && !decide (i32 (m - 1) < i32 n)) = true by
    rw [decide_eq_false (by rw [i32_lt (by omega) (by decide)]; omega), decide_eq_false (by rw [i32_lt (by omega) (by omega)]; omega)]; rfl]
  rw [sp_Masks, mm_aft_v]
  rfl
theorem cM_gave_1 (h : MG K R C lg m sw I A B) {x : Int32} (hx : x < i32 0 ∨ ∃ n, n < 2147483648 ∧ x = i32 n ∧ m ≤ n) : f_X11_gaveAway [.ref 39, .int x] (k + 64, e, (mm_RM r), I, J, A, B) = some (.inl (some (.int (i32 0))), (k + 64, e, (mm_RM r), mm_up I 39 39 (i32 1), J, A, B)) := by
  have hm := h.2.1.1
  have m37 := h.2.1.2.2.1
  rw [en_X11_gaveAway, sg_X11_gaveAway_0, hm]
  simp only [i32_l]
  have bad : (!decide (x < i32 0) && !decide (i32 m - i32 1 < x)) = false := by
    rcases hx with q | ⟨n, n1, n2, n3⟩
    · rw [decide_eq_true q]; rfl
    · subst n2
      have : i32 m - i32 1 < i32 n := by
        rw [si_i32, si_i32, si_i32, si_sub, si_lt (by omega) (by omega) (by omega) (by omega)]
        omega
      rw [decide_eq_true this]
      cases decide (i32 n < i32 0) <;> rfl
  rw [sp_Min, mm_aft_v, sg_X11_gaveAway_12, bad, sp_Masks, mm_aft_v, sg_X11_gaveAway_15, if_pos (show bi false = 0 from rfl)]
  rfl
theorem cM_gave_2 (h : MG K R C lg m sw I A B) (hn : 1 < m) (hs : sw = true) : f_X11_gaveAway [.ref 39, .int (i32 1)] (k + 64, e, (mm_RM r), I, J, A, B) = some (.inl (some (.int (i32 0))), (k + 64, e, (mm_RM r), mm_up (mm_up I 39 39 (i32 0)) 39 39 (i32 2), J, A, B)) := by
  have h3 := h.2.1.2.1
  rw [gave_15 k r e I J A B h (by omega) hn, sg_X11_gaveAway_15, mm_up_ne2 _ _ _ _ _ _ (by decide), h3, hs]
  simp (disch := omega) only [i32_l, iN_l, i32_add, i32_mul, i32_r0, i32_r1, run_bi, run_bi', i32_sub, decide_eq_true_eq, bi_rt, bi_em, bi_0, bi_1, i32_lt, i32_eq, iN_ne, iN_lt, iN_nlt, i32_ix, i32_in,  mm_aft_v, mm_aft_n, mm_aft_x, if_pos, if_neg, ite_true, ite_false, if_true, if_false, not_false_eq_true, not_true_eq_false]
theorem gave_62 (h : MG K R C lg m sw I A B) {n : Nat} (hn : n < m) (hs : ¬ (sw = true ∧ n = 1)) (hN : n - kf sw n ≤ bN K R C) (h36 : bN K R C ≤ 36) : f_X11_gaveAway [.ref 39, .int (i32 n)] (k + 64, e, (mm_RM r), I, J, A, B) = if 9 < bN K R C - (n - kf sw n) then some (.inl (some (.int (i32 0))), (k + 64, e, (mm_RM r), mm_up (mm_up I 39 39 (i32 0)) 39 39 (i32 3), J, A, B)) else mm_run (mm_pr tb_X11_gaveAway) (99, [some (.ref 39), some (.int (i32 n)), some (.long 0), none, some (.long 0), none, some (.int (i32 (kf sw n))), none, none, none], [], (k + 64, e, (mm_RM r), mm_up I 39 39 (i32 0), J, A, B)) := by
  have h3 := h.2.1.2.1
  have m37 := h.2.1.2.2.1
  have c3 : (mm_up I 39 39 (i32 0)) 39 3 = i32 (bN K R C) := by rw [mm_up_ne2 _ _ _ _ _ _ (by decide)]; exact h.1.cells
  have c12 : (mm_up I 39 39 (i32 0)) 39 12 = bi sw := by rw [mm_up_ne2 _ _ _ _ _ _ (by decide)]; exact h3
  have to39 : f_X11_gaveAway [.ref 39, .int (i32 n)] (k + 64, e, (mm_RM r), I, J, A, B) = mm_run (mm_pr tb_X11_gaveAway) (39, [some (.ref 39), some (.int (i32 n)), none, none, none, none, none, none, none, none], [], (k + 64, e, (mm_RM r), mm_up I 39 39 (i32 0), J, A, B)) := by
    rw [gave_15 k r e I J A B h (by omega) hn, sg_X11_gaveAway_15, c12]
    by_cases q1 : n = 1
    · have : sw = false := bool_f (fun z => hs ⟨z, q1⟩)
      rw [this]
      simp (disch := omega) only [i32_l, iN_l, i32_add, i32_mul, i32_r0, i32_r1, run_bi, run_bi', i32_sub, decide_eq_true_eq, bi_rt, bi_em, bi_0, bi_1, i32_lt, i32_eq, iN_ne, iN_lt, iN_nlt, i32_ix, i32_in,  mm_aft_v, mm_aft_n, mm_aft_x, if_pos, if_neg, ite_true, ite_false, if_true, if_false, not_false_eq_true, not_true_eq_false, Bool.false_eq_true]
    · simp (disch := omega) only [i32_l, iN_l, i32_add, i32_mul, i32_r0, i32_r1, run_bi, run_bi', i32_sub, decide_eq_true_eq, bi_rt, bi_em, bi_0, bi_1, i32_lt, i32_eq, iN_ne, iN_lt, iN_nlt, i32_ix, i32_in,  mm_aft_v, mm_aft_n, mm_aft_x, if_pos, if_neg, ite_true, ite_false, if_true, if_false, not_false_eq_true, not_true_eq_false, q1]
      cases sw <;> rfl
  rw [to39, sg_X11_gaveAway_39, c12, c3]
  cases sw with
  | false =>
    have k0 : kf false n = 0 := rfl
    rw [k0] at hN ⊢
    simp (disch := omega) only [i32_l, iN_l, i32_add, i32_mul, i32_r0, i32_r1, run_bi, run_bi', i32_sub, decide_eq_true_eq, bi_rt, bi_em, bi_0, bi_1, i32_lt, i32_eq, iN_ne, iN_lt, iN_nlt, i32_ix, i32_in,  mm_aft_v, mm_aft_n, mm_aft_x, if_pos, if_neg, ite_true, ite_false, if_true, if_false, not_false_eq_true, not_true_eq_false, Bool.false_eq_true, sg_X11_gaveAway_61]
    rw [sg_X11_gaveAway_62, c12]
    simp (disch := omega) only [i32_l, iN_l, i32_add, i32_mul, i32_r0, i32_r1, run_bi, run_bi', i32_sub, decide_eq_true_eq, bi_rt, bi_em, bi_0, bi_1, i32_lt, i32_eq, iN_ne, iN_lt, iN_nlt, i32_ix, i32_in,  mm_aft_v, mm_aft_n, mm_aft_x, if_pos, if_neg, ite_true, ite_false, if_true, if_false, not_false_eq_true, not_true_eq_false, Bool.false_eq_true]
    by_cases q : 9 < bN K R C - (n - 0)
    · rw [if_pos q, if_pos (by omega)]
    · rw [if_neg q, if_neg (by omega), sg_X11_gaveAway_96, sg_X11_gaveAway_97]
      rfl
  | true =>
    rw [if_neg (show ¬ bi true = 0 by decide)]
    by_cases q2 : 1 < n
    · rw [kf_t q2] at hN ⊢
      rw [if_pos (by rw [show (1 : Int32) = i32 1 from rfl, i32_lt (by decide) (by omega)]; exact q2), sg_X11_gaveAway_62, c12]
      have sb : i32 (bN K R C) - i32 n + i32 1 = si ((bN K R C : Int) - n + 1) := by
        rw [si_i32, si_i32, si_i32, si_sub, si_add]; congr 1
      simp only [i32_l]
      rw [sb, if_neg (show ¬ bi true = i32 0 by decide), if_pos (show i32 1 < i32 n by rw [i32_lt (by decide) (by omega)]; exact q2)]
      by_cases q : 9 < bN K R C - (n - 1)
      · rw [if_pos q, if_pos (by rw [si_i32, si_lt (by omega) (by omega) (by omega) (by omega)]; omega)]
      · rw [if_neg q, if_neg (by rw [si_i32, si_lt (by omega) (by omega) (by omega) (by omega)]; omega), sg_X11_gaveAway_97]
    · rw [kf_n q2] at hN ⊢
      rw [if_neg (by rw [show (1 : Int32) = i32 1 from rfl, i32_lt (by decide) (by omega)]; exact q2), sg_X11_gaveAway_61, sg_X11_gaveAway_62, c12]
      have sb : i32 (bN K R C) - i32 n + i32 0 = si ((bN K R C : Int) - n) := by
        rw [si_i32, si_i32, si_i32, si_sub, si_add]; congr 1; omega
      simp only [i32_l]
      rw [sb, if_neg (show ¬ bi true = i32 0 by decide), if_neg (show ¬ i32 1 < i32 n by rw [i32_lt (by decide) (by omega)]; exact q2)]
      by_cases q : 9 < bN K R C - (n - 0)
      · rw [if_pos q, if_pos (by rw [si_i32, si_lt (by omega) (by omega) (by omega) (by omega)]; omega)]
      · rw [if_neg q, if_neg (by rw [si_i32, si_lt (by omega) (by omega) (by omega) (by omega)]; omega), sg_X11_gaveAway_96, sg_X11_gaveAway_97]
        rfl
theorem cM_gave_3 (h : MG K R C lg m sw I A B) (w : WG K R C lg m sw) {n : Nat} (hn : n < m) (hs : ¬ (sw = true ∧ n = 1)) (hg : ¬ gn (emp (bN K R C) (aS lg sw n 0) (aS lg sw n 1)) ≤ 9) : f_X11_gaveAway [.ref 39, .int (i32 n)] (k + 64, e, (mm_RM r), I, J, A, B) = some (.inl (some (.int (i32 0))), (k + 64, e, (mm_RM r), mm_up (mm_up I 39 39 (i32 0)) 39 39 (i32 3), J, A, B)) := by
  have g := gn_aS w (show n ≤ m by omega)
  rw [gave_62 k r e I J A B h hn hs (by omega) (bN_le w.1), if_pos (by omega)]
theorem cM_gave (h : MG K R C lg m sw I A B) (w : WG K R C lg m sw) {n : Nat} (hn : n < m) (hs : ¬ (sw = true ∧ n = 1)) (hg : gn (emp (bN K R C) (aS lg sw n 0) (aS lg sw n 1)) ≤ 9) : ∃ I' A' B', f_X11_gaveAway [.ref 39, .int (i32 n)] (k + 64, e, (mm_RM r), I, J, A, B) = some (.inl (some (.int (bi (gvV K R C lg sw n)))), (k + 64, e, (mm_RM r), I', J, A', B')) ∧ I' 39 39 = i32 0 ∧ FM I I' J J A A' B B' := by
  have g := gn_aS w (show n ≤ m by omega)
  have g1 := gn_aS1 w hn hs
  have m37 := h.2.1.2.2.1
  have kl := kf_le sw n
  have fm0 := FM.th I J A B (i32 0)
  have h2 := h.fr fm0
  rw [gave_62 k r e I J A B h hn hs (by omega) (bN_le w.1), if_neg (by omega)]
  have L : ∀ dd i, i + dd = n → kf sw n ≤ i → mm_run (mm_pr tb_X11_gaveAway) (99, [some (.ref 39), some (.int (i32 n)), some (.long (stN lg (kf sw n) 0 i)), none, some (.long (stN lg (kf sw n) 1 i)), none, some (.int (i32 i)), none, none, none], [], (k + 64, e, (mm_RM r), mm_up I 39 39 (i32 0), J, A, B)) = mm_aft (mm_pr tb_X11_gaveAway) 176 [some (.ref 39), some (.int (i32 n)), some (.long (aS lg sw n 0)), none, some (.long (aS lg sw n 1)), none, some (.int (i32 (n % 2))), none, none, none] [] (f_X11_solves [.ref 39, .long (aS lg sw n 0), .long (aS lg sw n 1), .int (i32 (n % 2))] (k + 64, e, (mm_RM r), mm_up I 39 39 (i32 0), J, A, B)) := by
    intro dd
    induction dd with
    | zero =>
      intro i hi hk
      rw [sg_X11_gaveAway_99, if_neg (by rw [i32_lt (by omega) (by omega)]; omega)]
      simp only [i32_l]
      rw [i32_mod2 (by omega), show i = n by omega]
    | succ dd ih =>
      intro i hi hk
      have u0 : stN lg (kf sw n) 0 (i + 1) = stN lg (kf sw n) 0 i ||| (if kf sw n ≤ i ∧ i % 2 = 0 then mbit (lg i) else 0) := rfl
      have u1 : stN lg (kf sw n) 1 (i + 1) = stN lg (kf sw n) 1 i ||| (if kf sw n ≤ i ∧ i % 2 = 1 then mbit (lg i) else 0) := rfl
      have ai : A 46 i = i32 (lg i) := h.2.1.2.2.2 i (by omega)
      rw [← ih (i + 1) (by omega) (by omega), u0, u1, sg_X11_gaveAway_99, if_pos (by rw [i32_lt (by omega) (by omega)]; omega)]
      simp only [i32_l]
      rw [i32_mod2 (by omega)]
      have : i % 2 = 0 ∨ i % 2 = 1 := by omega
      rcases this with q | q
      · rw [if_pos (show kf sw n ≤ i ∧ i % 2 = 0 from ⟨hk, q⟩), if_neg (show ¬ (kf sw n ≤ i ∧ i % 2 = 1) by omega)]
        simp (disch := omega) only [i32_l, iN_l, i32_add, i32_mul, i32_r0, i32_r1, run_bi, run_bi', i32_sub, decide_eq_true_eq, bi_rt, bi_em, bi_0, bi_1, i32_lt, i32_eq, iN_ne, iN_lt, iN_nlt, i32_ix, i32_in,  mm_aft_v, mm_aft_n, mm_aft_x, if_pos, if_neg, ite_true, ite_false, if_true, if_false, not_false_eq_true, not_true_eq_false, q, ai, sp_Mbit, sg_X11_gaveAway_123]
        rw [sg_X11_gaveAway_127]
        simp only [i32_l]
        rw [i32_mod2 (by omega), q]
        simp (disch := omega) only [i32_l, iN_l, i32_add, i32_mul, i32_r0, i32_r1, run_bi, run_bi', i32_sub, decide_eq_true_eq, bi_rt, bi_em, bi_0, bi_1, i32_lt, i32_eq, iN_ne, iN_lt, iN_nlt, i32_ix, i32_in,  mm_aft_v, mm_aft_n, mm_aft_x, if_pos, if_neg, ite_true, ite_false, if_true, if_false, not_false_eq_true, not_true_eq_false, sg_X11_gaveAway_153]
      · rw [if_neg (show ¬ (kf sw n ≤ i ∧ i % 2 = 0) by omega), if_pos (show kf sw n ≤ i ∧ i % 2 = 1 from ⟨hk, q⟩)]
        simp (disch := omega) only [i32_l, iN_l, i32_add, i32_mul, i32_r0, i32_r1, run_bi, run_bi', i32_sub, decide_eq_true_eq, bi_rt, bi_em, bi_0, bi_1, i32_lt, i32_eq, iN_ne, iN_lt, iN_nlt, i32_ix, i32_in,  mm_aft_v, mm_aft_n, mm_aft_x, if_pos, if_neg, ite_true, ite_false, if_true, if_false, not_false_eq_true, not_true_eq_false, q]
        rw [sg_X11_gaveAway_127]
        simp only [i32_l]
        rw [i32_mod2 (by omega), q]
        simp (disch := omega) only [i32_l, iN_l, i32_add, i32_mul, i32_r0, i32_r1, run_bi, run_bi', i32_sub, decide_eq_true_eq, bi_rt, bi_em, bi_0, bi_1, i32_lt, i32_eq, iN_ne, iN_lt, iN_nlt, i32_ix, i32_in,  mm_aft_v, mm_aft_n, mm_aft_x, if_pos, if_neg, ite_true, ite_false, if_true, if_false, not_false_eq_true, not_true_eq_false, ai, sp_Mbit, sg_X11_gaveAway_149, sg_X11_gaveAway_153]
  have L0 := L (n - kf sw n) (kf sw n) (by omega) (Nat.le_refl _)
  rw [stN_f lg 0 kl.1, stN_f lg 1 kl.1] at L0
  rw [L0]
  obtain ⟨A', B', s1, s2, s3, s4, s5⟩ := sp_Msolves k r e J (mm_up I 39 39 (i32 0)) A B h2.1 h2.2.2.2.2 (aS lg sw n 0) (aS lg sw n 1) (tu := n % 2) (by omega) hg
  obtain ⟨I2, hI2⟩ : ∃ I2, I2 = mm_up (mm_up I 39 39 (i32 0)) 39 21 (i32 (gn (emp (bN K R C) (aS lg sw n 0) (aS lg sw n 1)))) := ⟨_, rfl⟩
  have fm2 : FM I I2 J J A A' B B' := (FM.th I J A B (i32 0)).tr (solves_fr (mm_up I 39 39 (i32 0)) J A B hI2 s4 s5)
  have h3 := h.fr fm2
  have h21 : I2 39 21 = i32 (gn (emp (bN K R C) (aS lg sw n 0) (aS lg sw n 1))) := by rw [hI2, mm_up_eq]
  refine ⟨I2, A', B', ?_, by rw [hI2, mm_up_ne2 _ _ _ _ _ _ (by decide), mm_up_eq], fm2⟩
  rw [s1, mm_aft_n, ← hI2, sg_X11_gaveAway_176]
  have v0 := (s2 0 (Nat.pow_pos (by decide)) (by rw [tnF_0 (by omega)]; omega)).1
  rw [tnF_0 (by omega), zF_0 (by omega), ← bestV_val (by omega)] at v0
  have hE := emp_EH (bN_le w.1) (aS lg sw n 0) (aS lg sw n 1)
  have lE : mb (emp (bN K R C) (aS lg sw n 0) (aS lg sw n 1)) (lg n) = true := by
    have h64 : ∀ i, i < n → lg i < 64 := fun i hi => by have := w.n36 i (by omega); omega
    refine (hE _).2 ⟨w.2.1 n hn, bool_f (fun z => ?_), bool_f (fun z => ?_)⟩
    · obtain ⟨i, i1, i2, _, i3⟩ := (mb_stN lg (kf sw n) 0 (lg n) n h64).1 z
      exact Dst_pre w.2.2.1 (show n + 1 ≤ m by omega) i n (by rw [kf_sn hs]; exact i2) i1 (by omega) i3
    · obtain ⟨i, i1, i2, _, i3⟩ := (mb_stN lg (kf sw n) 1 (lg n) n h64).1 z
      exact Dst_pre w.2.2.1 (show n + 1 ≤ m by omega) i n (by rw [kf_sn hs]; exact i2) i1 (by omega) i3
  have gl := gc_of (w.n36 n hn) lE
  obtain ⟨jn, hjn⟩ : ∃ jn, jn = cf (mb (emp (bN K R C) (aS lg sw n 0) (aS lg sw n 1))) (lg n) := ⟨_, rfl⟩
  rw [← hjn] at gl
  obtain ⟨z1, z2, z3⟩ := zF_one (K := K) (R := R) (C := C) (E := emp (bN K R C) (aS lg sw n 0) (aS lg sw n 1)) (s0 := aS lg sw n 0) (s1 := aS lg sw n 1) (tu := n % 2) (j := jn) (by omega) gl.1
  have vb := (s2 _ z2 (by rw [z1]; omega)).1
  rw [z1, z3, gl.2, ← aS_s hs, ← aS_s hs, show gn (emp (bN K R C) (aS lg sw n 0) (aS lg sw n 1)) - 1 = gn (emp (bN K R C) (aS lg sw (n + 1) 0) (aS lg sw (n + 1) 1)) by omega, ← bestV_val (by omega)] at vb
  have bl := bestV_lt (K := K) (R := R) (C := C) (s0 := aS lg sw n 0) (s1 := aS lg sw n 1) (tu := n % 2) (by omega)
  have bl2 := bestV_lt (K := K) (R := R) (C := C) (s0 := aS lg sw (n + 1) 0) (s1 := aS lg sw (n + 1) 1) (tu := 1 - n % 2) (by omega)
  have p9 := p3le hg
  have an : A' 46 n = i32 (lg n) := h3.2.1.2.2.2 n hn
  have n36 := w.n36 n hn
  unfold gvV
  generalize hva : bestV K R C (aS lg sw n 0) (aS lg sw n 1) (n % 2) = va at v0 bl ⊢
  generalize hvb : bestV K R C (aS lg sw (n + 1) 0) (aS lg sw (n + 1) 1) (1 - n % 2) = ub at vb bl2 ⊢
  generalize hEE : emp (bN K R C) (aS lg sw n 0) (aS lg sw n 1) = E at *
  have F : ∀ dd j, j + dd = gn E → mm_run (mm_pr tb_X11_gaveAway) (191, [some (.ref 39), some (.int (i32 n)), some (.long (aS lg sw n 0)), none, some (.long (aS lg sw n 1)), none, some (.int (i32 (n % 2))), some (.int (i32 va)), some (.int (i32 (if jn < j then ub else va))), some (.int (i32 j))], [], (k + 64, e, (mm_RM r), I2, J, A', B')) = some (.inl (some (.int (bi (decide (va = n % 2) && !decide (ub = n % 2))))), (k + 64, e, (mm_RM r), I2, J, A', B')) := by
    intro dd
    induction dd with
    | zero =>
      intro j hj
      rw [sg_X11_gaveAway_191, h21, if_neg (by rw [i32_lt (by omega) (by omega)]; omega), if_pos (show jn < j by omega)]
      by_cases q : va = n % 2
      · by_cases q2 : ub = n % 2
        · rw [decide_eq_true q, decide_eq_true q2]
          simp (disch := omega) only [i32_l, iN_l, i32_add, i32_mul, i32_r0, i32_r1, run_bi, run_bi', i32_sub, decide_eq_true_eq, bi_rt, bi_em, bi_0, bi_1, i32_lt, i32_eq, iN_ne, iN_lt, iN_nlt, i32_ix, i32_in,  mm_aft_v, mm_aft_n, mm_aft_x, if_pos, if_neg, ite_true, ite_false, if_true, if_false, not_false_eq_true, not_true_eq_false, q, q2, sg_X11_gaveAway_264, sg_X11_gaveAway_265]
          rfl
        · rw [decide_eq_true q, decide_eq_false q2]
          simp (disch := omega) only [i32_l, iN_l, i32_add, i32_mul, i32_r0, i32_r1, run_bi, run_bi', i32_sub, decide_eq_true_eq, bi_rt, bi_em, bi_0, bi_1, i32_lt, i32_eq, iN_ne, iN_lt, iN_nlt, i32_ix, i32_in,  mm_aft_v, mm_aft_n, mm_aft_x, if_pos, if_neg, ite_true, ite_false, if_true, if_false, not_false_eq_true, not_true_eq_false, q, q2, sg_X11_gaveAway_265]
          rfl
      · rw [decide_eq_false q]
        simp (disch := omega) only [i32_l, iN_l, i32_add, i32_mul, i32_r0, i32_r1, run_bi, run_bi', i32_sub, decide_eq_true_eq, bi_rt, bi_em, bi_0, bi_1, i32_lt, i32_eq, iN_ne, iN_lt, iN_nlt, i32_ix, i32_in,  mm_aft_v, mm_aft_n, mm_aft_x, if_pos, if_neg, ite_true, ite_false, if_true, if_false, not_false_eq_true, not_true_eq_false, q, sg_X11_gaveAway_264, sg_X11_gaveAway_265]
        rfl
    | succ dd ih =>
      intro j hj
      have gj := gc_spec (E := E) (k := j) (by omega)
      have sj := s3 j (by omega)
      rw [← ih (j + 1) (by omega), sg_X11_gaveAway_191, h21]
      by_cases q : j = jn
      · subst q
        have p3 := pow3_lt (j := j) (by omega)
        have hT := h3.2.2.2.2 j (by omega)
        have hc : gc E j = lg n := gl.2
        generalize hX : 3 ^ j * (n % 2 + 1) = X at z1 z2 z3 vb
        rw [if_pos (show j < j + 1 by omega)]
        simp (disch := omega) only [i32_l, iN_l, i32_add, i32_mul, i32_r0, i32_r1, run_bi, run_bi', i32_sub, decide_eq_true_eq, bi_rt, bi_em, bi_0, bi_1, i32_lt, i32_eq, iN_ne, iN_lt, iN_nlt, i32_ix, i32_in,  mm_aft_v, mm_aft_n, mm_aft_x, if_pos, if_neg, ite_true, ite_false, if_true, if_false, not_false_eq_true, not_true_eq_false, sj, an, hc, hT, hX, vb, sg_X11_gaveAway_238]
      · have hc : ¬ gc E j = lg n := fun z => q (gc_inj (by omega) gl.1 (by rw [z, gl.2]))
        have he : (if jn < j + 1 then ub else va) = (if jn < j then ub else va) := by
          by_cases y : jn < j
          · rw [if_pos y, if_pos (by omega)]
          · rw [if_neg y, if_neg (by omega)]
        rw [he]
        simp (disch := omega) only [i32_l, iN_l, i32_add, i32_mul, i32_r0, i32_r1, run_bi, run_bi', i32_sub, decide_eq_true_eq, bi_rt, bi_em, bi_0, bi_1, i32_lt, i32_eq, iN_ne, iN_lt, iN_nlt, i32_ix, i32_in,  mm_aft_v, mm_aft_n, mm_aft_x, if_pos, if_neg, ite_true, ite_false, if_true, if_false, not_false_eq_true, not_true_eq_false, sj, an, hc, sg_X11_gaveAway_238]
  have F0 := F (gn E) 0 (by omega)
  rw [if_neg (by omega)] at F0
  simp only [i32_l]
  rw [i32_ix (by decide), v0]
  exact F0
end
