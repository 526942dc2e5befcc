/-! moves that gave a win away -/
theorem i32_cases (x : Int32) : x < i32 0 ∨ ∃ n, n < 2147483648 ∧ x = i32 n := by
  by_cases h : x.toInt < 0
  · left
    rw [Int32.lt_iff_toInt_lt, i32_toInt (by decide)]
    exact h
  · right
    have hl := Int32.toInt_lt x
    refine ⟨x.toInt.toNat, by omega, ?_⟩
    apply Int32.toInt_inj.1
    rw [i32_toInt (by omega)]
    omega
theorem blt_t {a b : Nat} (h : a < b) : Nat.blt a b = true := by rw [Nat.blt_eq]; exact h
theorem blt_f {a b : Nat} (h : ¬ a < b) : Nat.blt a b = false := bool_f (by rw [Nat.blt_eq]; exact h)
theorem kf_t {n : Nat} (h : 1 < n) : kf true n = 1 := by unfold kf; rw [blt_t h]; rfl
theorem kf_n {sw : Bool} {n : Nat} (h : ¬ 1 < n) : kf sw n = 0 := by unfold kf; rw [blt_f h, Bool.and_false]; rfl
theorem kf_f (n : Nat) : kf false n = 0 := rfl
theorem kf_sn {sw : Bool} {n : Nat} (hs : ¬ (sw = true ∧ n = 1)) : kf sw (n + 1) = kf sw n := by
  cases sw with
  | false => rfl
  | true =>
    have : n ≠ 1 := fun z => hs ⟨rfl, z⟩
    by_cases q : 1 < n
    · rw [kf_t q, kf_t (by omega)]
    · rw [kf_n q, kf_n (by omega)]
theorem Dst_pre {lg : Nat → Nat} {m n : Nat} {sw : Bool} (h : Dst lg (kf sw m) m) (hn : n ≤ m) : Dst lg (kf sw n) n := by
  intro i j h1 h2 h3
  refine h i j ?_ h2 (by omega)
  cases sw with
  | false => rw [kf_f]; omega
  | true =>
    by_cases q : 1 < n
    · rw [kf_t q] at h1
      rw [kf_t (by omega)]; exact h1
    · omega
/-- the stones ahead of a move -/
abbrev aS (lg : Nat → Nat) (sw : Bool) (n p : Nat) : Int64 := stN lg (kf sw n) p n
theorem aS_s {lg : Nat → Nat} {sw : Bool} {n p : Nat} (hs : ¬ (sw = true ∧ n = 1)) : aS lg sw (n + 1) p = pt (n % 2) p (lg n) (aS lg sw n p) := by
  have k1 := kf_sn hs
  show stN lg (kf sw (n + 1)) p (n + 1) = _
  rw [k1]
  have kl := (kf_le sw n).2
  show stN lg (kf sw n) p n ||| (if kf sw n ≤ n ∧ n % 2 = p then mbit (lg n) else 0) = _
  unfold pt
  by_cases q : n % 2 = p
  · rw [if_pos ⟨kl, q⟩, if_pos q]
  · rw [if_neg (fun z => q z.2), if_neg q, or_zero64]
theorem gn_aS {K R C : Nat} {lg : Nat → Nat} {m : Nat} {sw : Bool} (w : WG K R C lg m sw) {n : Nat} (hn : n ≤ m) : gn (emp (bN K R C) (aS lg sw n 0) (aS lg sw n 1)) + (n - kf sw n) = bN K R C := gn_cnt w.1 (fun i hi => w.2.1 i (by omega)) (Dst_pre w.2.2.1 hn) (kf_le sw n).2
theorem gn_aS1 {K R C : Nat} {lg : Nat → Nat} {m : Nat} {sw : Bool} (w : WG K R C lg m sw) {n : Nat} (hn : n < m) (hs : ¬ (sw = true ∧ n = 1)) : gn (emp (bN K R C) (aS lg sw (n + 1) 0) (aS lg sw (n + 1) 1)) + 1 = gn (emp (bN K R C) (aS lg sw n 0) (aS lg sw n 1)) := by
  have a := gn_aS w (show n ≤ m by omega)
  have b := gn_aS w (show n + 1 ≤ m by omega)
  have k0 := kf_le sw n
  have k1 := kf_le sw (n + 1)
  have := kf_sn hs
  omega
theorem mcnt_aS {K R C : Nat} {lg : Nat → Nat} {m : Nat} {sw : Bool} (w : WG K R C lg m sw) {n : Nat} (hn : n ≤ m) : mcnt (aS lg sw n 0 ||| aS lg sw n 1) = n - kf sw n := by
  have h36 : ∀ i, i < n → lg i < 36 := fun i hi => w.n36 i (by omega)
  rw [mcnt_cf, ← stN_cnt n h36 (Dst_pre w.2.2.1 hn) (kf_le sw n).2]
  rw [show cf (mb (aS lg sw n 0 ||| aS lg sw n 1)) 64 = cf (mb (aS lg sw n 0 ||| aS lg sw n 1)) 36 from cf_stop (fun c hc => bool_f (fun z => by
    rw [mb_or] at z
    obtain ⟨i, a, _, d⟩ := (mb_st01 h36 c).1 z
    have := h36 i a
    omega)) (by decide)]
  exact cf_congr (fun c _ => mb_or _ _ _)
noncomputable def gvV (K R C : Nat) (lg : Nat → Nat) (sw : Bool) (n : Nat) : Bool := decide (bestV K R C (aS lg sw n 0) (aS lg sw n 1) (n % 2) = n % 2) && !decide (bestV K R C (aS lg sw (n + 1) 0) (aS lg sw (n + 1) 1) (1 - n % 2) = n % 2)
theorem bestV_lt {K R C : Nat} {s0 s1 : Int64} {tu : Nat} (ht : tu < 2) : bestV K R C s0 s1 tu < 2 := by
  unfold bestV
  split
  · omega
  · split
    · omega
    · split <;> omega
section
variable {K R C : Nat} {lg : Nat → Nat} {m : Nat} {sw : Bool} (e : Nat) (I : Nat → Nat → Int32) (J : Nat → Nat → Int64) (A : Nat → Nat → Int32) (B : Nat → Nat → Int64)
theorem sp0_stonesAhead (h : PL lg m sw I A) {number p : Nat} (hn : number ≤ m) (hp : p < 2) : f_X6_stonesAhead [.ref 7, .int (i32 number), .int (i32 p)] (79, e, mm_R0, I, J, A, B) = some (.inl (some (.long (aS lg sw number p))), (79, e, mm_R0, I, J, A, B)) := by
  have := sp_stonesAhead 70 mm_R0 e I J A B h hn hp
  rw [mm_RP_0] at this
  exact this
theorem cC_gave_1 (h : CG K R C lg m sw I J A B) {x : Int32} (hx : x < i32 0 ∨ ∃ n, n < 2147483648 ∧ x = i32 n ∧ m ≤ n) : f_X10_gaveAway [.ref 0, .int x] (79, e, mm_R0, I, J, A, B) = some (.inr 1, (79, e + 1, mm_R0, I, J, A, B)) := by
  have hm := h.2.1.1
  have m37 := h.2.1.2.2.1
  rw [en_X10_gaveAway, sg_X10_gaveAway_0, hm]
  simp only [i32_l]
  rcases hx with q | ⟨n, n1, n2, n3⟩
  · rw [if_pos q, sg_X10_gaveAway_15]
  · subst n2
    simp (disch := omega) only [i32_l, iN_l, i32_add, i32_mul, i32_r0, i32_r1, run_bi, run_bi', i32_sub, decide_eq_true_eq, bi_rt, bi_em, bi_0, bi_1, i32_lt, i32_eq, iN_ne, iN_lt, iN_nlt, i32_ix, i32_in,  mm_aft_v, mm_aft_n, mm_aft_x, if_pos, if_neg, ite_true, ite_false, if_true, if_false, not_false_eq_true, not_true_eq_false, sg_X10_gaveAway_15]
theorem cC_gave_2 (h : CG K R C lg m sw I J A B) (hn : 1 < m) (hs : sw = true) : f_X10_gaveAway [.ref 0, .int (i32 1)] (79, e, mm_R0, I, J, A, B) = some (.inr 2, (79, e + 1, mm_R0, I, J, A, B)) := by
  have hm := h.2.1.1
  have m37 := h.2.1.2.2.1
  have h3 := h.2.1.2.1
  rw [en_X10_gaveAway, sg_X10_gaveAway_0, hm, h3, hs]
  simp (disch := omega) only [i32_l, iN_l, i32_add, i32_mul, i32_r0, i32_r1, run_bi, run_bi', i32_sub, decide_eq_true_eq, bi_rt, bi_em, bi_0, bi_1, i32_lt, i32_eq, iN_ne, iN_lt, iN_nlt, i32_ix, i32_in,  mm_aft_v, mm_aft_n, mm_aft_x, if_pos, if_neg, ite_true, ite_false, if_true, if_false, not_false_eq_true, not_true_eq_false]
theorem gave_50 (h : CG K R C lg m sw I J A B) (w : WG K R C lg m sw) {n : Nat} (hn : n < m) (hs : ¬ (sw = true ∧ n = 1)) : f_X10_gaveAway [.ref 0, .int (i32 n)] (79, e, mm_R0, I, J, A, B) = mm_run (mm_pr tb_X10_gaveAway) (85, [some (.ref 0), some (.int (i32 n)), some (.long (aS lg sw n 0)), none, some (.long (aS lg sw n 1)), none, none, none, none, none, none], [.int (i32 (n - kf sw n)), .int (i32 (bN K R C))], (79, e, mm_R0, I, J, A, B)) := by
  have hm := h.2.1.1
  have m37 := h.2.1.2.2.1
  have h3 := h.2.1.2.1
  have go : mm_run (mm_pr tb_X10_gaveAway) (50, [some (.ref 0), some (.int (i32 n)), none, none, none, none, none, none, none, none, none], [], (79, e, mm_R0, I, J, A, B)) = mm_run (mm_pr tb_X10_gaveAway) (85, [some (.ref 0), some (.int (i32 n)), some (.long (aS lg sw n 0)), none, some (.long (aS lg sw n 1)), none, none, none, none, none, none], [.int (i32 (n - kf sw n)), .int (i32 (bN K R C))], (79, e, mm_R0, I, J, A, B)) := by
    rw [sg_X10_gaveAway_50]
    simp only [i32_l]
    rw [sp0_stonesAhead e I J A B h.2.1 (by omega) (by decide), mm_aft_v, sg_X10_gaveAway_59]
    simp only [i32_l]
    rw [sp0_stonesAhead e I J A B h.2.1 (by omega) (by decide), mm_aft_v, sg_X10_gaveAway_69, sp_bitCount, mm_aft_v, mcnt_aS w (by omega), h.1.cells]
  rw [en_X10_gaveAway, sg_X10_gaveAway_0, hm, h3]
  by_cases q1 : n = 1
  · have : sw = false := bool_f (fun z => hs ⟨z, q1⟩)
    rw [← go, this]
    simp (disch := omega) only [i32_l, iN_l, i32_add, i32_mul, i32_r0, i32_r1, run_bi, run_bi', i32_sub, decide_eq_true_eq, bi_rt, bi_em, bi_0, bi_1, i32_lt, i32_eq, iN_ne, iN_lt, iN_nlt, i32_ix, i32_in,  mm_aft_v, mm_aft_n, mm_aft_x, if_pos, if_neg, ite_true, ite_false, if_true, if_false, not_false_eq_true, not_true_eq_false, q1, Bool.false_eq_true]
  · rw [← go]
    simp (disch := omega) only [i32_l, iN_l, i32_add, i32_mul, i32_r0, i32_r1, run_bi, run_bi', i32_sub, decide_eq_true_eq, bi_rt, bi_em, bi_0, bi_1, i32_lt, i32_eq, iN_ne, iN_lt, iN_nlt, i32_ix, i32_in,  mm_aft_v, mm_aft_n, mm_aft_x, if_pos, if_neg, ite_true, ite_false, if_true, if_false, not_false_eq_true, not_true_eq_false, q1]
theorem cC_gave_3 (h : CG K R C lg m sw I J A B) (w : WG K R C lg m sw) {n : Nat} (hn : n < m) (hs : ¬ (sw = true ∧ n = 1)) (hg : ¬ gn (emp (bN K R C) (aS lg sw n 0) (aS lg sw n 1)) ≤ 9) : f_X10_gaveAway [.ref 0, .int (i32 n)] (79, e, mm_R0, I, J, A, B) = some (.inr 3, (79, e + 1, mm_R0, I, J, A, B)) := by
  have g := gn_aS w (show n ≤ m by omega)
  have N := bN_le w.1
  rw [gave_50 e I J A B h w hn hs, sg_X10_gaveAway_85]
  simp (disch := omega) only [i32_l, iN_l, i32_add, i32_mul, i32_r0, i32_r1, run_bi, run_bi', i32_sub, decide_eq_true_eq, bi_rt, bi_em, bi_0, bi_1, i32_lt, i32_eq, iN_ne, iN_lt, iN_nlt, i32_ix, i32_in,  mm_aft_v, mm_aft_n, mm_aft_x, if_pos, if_neg, ite_true, ite_false, if_true, if_false, not_false_eq_true, not_true_eq_false]
theorem cC_gave (h : CG K R C lg m sw I J A B) (w : WG K R C lg m sw) {n : Nat} (hn : n < m) (hs : ¬ (sw = true ∧ n = 1)) (hg : gn (emp (bN K R C) (aS lg sw n 0) (aS lg sw n 1)) ≤ 9) : ∃ I' J' A', f_X10_gaveAway [.ref 0, .int (i32 n)] (79, e, mm_R0, I, J, A, B) = some (.inl (some (.int (bi (gvV K R C lg sw n)))), (79, e, mm_R0, I', J', A', B)) ∧ BQ K R C I' J' A' B ∧ FC I I' J J' A A' B B := by
  have g := gn_aS w (show n ≤ m by omega)
  have g1 := gn_aS1 w hn hs
  have N := bN_le w.1
  have m37 := h.2.1.2.2.1
  obtain ⟨I1, J1, A1, a1, a2, a3⟩ := sp_winnerOf e B I J A h.1 h.2.2.2.2.2.1 (aS lg sw n 0) (aS lg sw n 1) (show n % 2 < 2 by omega) hg
  have h2 := h.fr (FC.of2 (B := B) a3) a2
  have bl := bestV_lt (K := K) (R := R) (C := C) (s0 := aS lg sw n 0) (s1 := aS lg sw n 1) (tu := n % 2) (by omega)
  rw [gave_50 e I J A B h w hn hs, sg_X10_gaveAway_85]
  simp only [i32_l]
  rw [i32_sub (by omega), if_neg (by rw [i32_lt (by decide) (by omega)]; omega), i32_and1 (by omega), a1, mm_aft_v, sg_X10_gaveAway_118]
  by_cases q : bestV K R C (aS lg sw n 0) (aS lg sw n 1) (n % 2) = n % 2
  · obtain ⟨I2, J2, A2, b1, b2, b3⟩ := sp_winnerOf e B I1 J1 A1 h2.1 a2 (aS lg sw (n + 1) 0) (aS lg sw (n + 1) 1) (tu := 1 - n % 2) (by omega) (by omega)
    have bl2 := bestV_lt (K := K) (R := R) (C := C) (s0 := aS lg sw (n + 1) 0) (s1 := aS lg sw (n + 1) 1) (tu := 1 - n % 2) (by omega)
    refine ⟨I2, J2, A2, ?_, b2, (FC.of2 (B := B) a3).tr (FC.of2 b3)⟩
    rw [if_pos (by rw [q])]
    simp only [i32_l]
    rw [i32_add, sp0_stonesAhead e I1 J1 A1 B h2.2.1 (by omega) (by decide), mm_aft_v, sg_X10_gaveAway_136]
    simp only [i32_l]
    rw [i32_add, sp0_stonesAhead e I1 J1 A1 B h2.2.1 (by omega) (by decide), mm_aft_v, sg_X10_gaveAway_149]
    simp only [i32_l]
    rw [i32_sub (by omega), b1, mm_aft_v, sg_X10_gaveAway_166]
    unfold gvV
    rw [decide_eq_true q, Bool.true_and]
    by_cases q2 : bestV K R C (aS lg sw (n + 1) 0) (aS lg sw (n + 1) 1) (1 - n % 2) = n % 2
    · rw [if_pos (by rw [q2]), sg_X10_gaveAway_176, decide_eq_true q2, if_pos (Or.inl rfl)]; rfl
    · rw [if_neg (by rw [i32_eq (by omega) (by omega)]; exact q2), sg_X10_gaveAway_176, decide_eq_false q2, if_pos (Or.inr rfl)]; rfl
  · refine ⟨I1, J1, A1, ?_, a2, FC.of2 a3⟩
    unfold gvV
    rw [if_neg (by rw [i32_eq (by omega) (by omega)]; exact q), decide_eq_false q, Bool.false_and]
    rfl
end
section
variable {K R C : Nat} {lg : Nat → Nat} {m : Nat} {sw : Bool} (k : Nat) (r : Nat → Nat → Value) (e : Nat) (I : Nat → Nat → Int32) (J : Nat → Nat → Int64) (A : Nat → Nat → Int32) (B : Nat → Nat → Int64)
end
