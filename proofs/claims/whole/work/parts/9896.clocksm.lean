/-! clocks: the reference's calls -/
abbrev FW (I I' : Nat → Nat → Int32) (A A' : Nat → Nat → Int32) : Prop := (∀ i, i ≠ 39 → I' i = I i) ∧ (∀ p, p ≠ 13 → p ≠ 15 → p ≠ 16 → p ≠ 39 → I' 39 p = I 39 p) ∧ (∀ i, i ≠ 47 → i ≠ 48 → i ≠ 49 → A' i = A i)
theorem min_div {q u c : Nat} (h0 : 0 < c) (h : c ≤ u) : min (q + 1) (u / c) = min q ((u - c) / c) + 1 := by
  have : u / c = (u - c) / c + 1 := by
    have e : u = (u - c) + c := by omega
    conv => lhs; rw [e]
    exact Nat.add_div_right _ h0
  rw [this]
  omega
section
variable {K R C : Nat} {lg : Nat → Nat} {m : Nat} {sw : Bool} {ea : Nat} {tk : Bool} {se pe us : Nat → Nat} {lo : Nat} (k : Nat) (r : Nat → Nat → Value) (e : Nat) (I : Nat → Nat → Int32) (J : Nat → Nat → Int64) (A : Nat → Nat → Int32) (B : Nat → Nat → Int64)
theorem MG.low {I' : Nat → Nat → Int32} {A' : Nat → Nat → Int32} {B' : Nat → Nat → Int64} (h : MG K R C lg m sw I A B) (hI : ∀ p, p < 13 → I' 39 p = I 39 p) (hA : ∀ i, i < 47 → A' i = A i) (hA51 : A' 51 = A 51) (hB : ∀ i, i < 46 → B' i = B i) : MG K R C lg m sw I' A' B' := by
  obtain ⟨h1, h2, h3, h4, h5⟩ := h
  have b' : MB K R C I' A' B' := ⟨h1.1, by rw [hI 0 (by decide)]; exact h1.kind, by rw [hI 1 (by decide)]; exact h1.rows, by rw [hI 2 (by decide)]; exact h1.cols, by rw [hI 3 (by decide)]; exact h1.cells, by rw [hA 40 (by decide), hA 41 (by decide)]; exact h1.rc, by rw [hA 42 (by decide)]; exact h1.nx, by rw [hB 43 (by decide)]; exact h1.nb, by rw [hB 44 (by decide)]; exact h1.sd⟩
  exact ⟨b', ⟨by rw [hI 10 (by decide)]; exact h2.1, by rw [hI 12 (by decide)]; exact h2.2.1, h2.2.2.1, by rw [hA 46 (by decide)]; exact h2.2.2.2⟩, by rw [hB 45 (by decide)]; exact h3, by rw [hB 45 (by decide)]; exact h4, by rw [hA51]; exact h5⟩
theorem MG.fw {I' A' : Nat → Nat → Int32} (h : MG K R C lg m sw I A B) (f : FW I I' A A') : MG K R C lg m sw I' A' B := h.low I A B (fun p hp => f.2.1 p (by omega) (by omega) (by omega) (by omega)) (fun i hi => f.2.2 i (by omega) (by omega) (by omega)) (f.2.2 51 (by decide) (by decide) (by decide)) (fun _ _ => rfl)
theorem TM.th {x : Int32} (t : TM ea tk se pe us lo I A) : TM ea tk se pe us lo (mm_up I 39 39 x) A := ⟨fun z => by rw [mm_up_ne2 _ _ _ _ _ _ (by decide)]; exact t.1 z, by rw [mm_up_ne2 _ _ _ _ _ _ (by decide)]; exact t.2.1, by rw [mm_up_ne2 _ _ _ _ _ _ (by decide)]; exact t.2.2.1, t.2.2.2⟩
theorem sp_MwinnerG (h : MG K R C lg m sw I A B) (t : TM ea tk se pe us lo I A) (hl : lo ≤ 2) : f_X11_winner [.ref 39] (k + 64, e, (mm_RM r), I, J, A, B) = some (.inl (some (.int (wnr K R C lg m sw lo))), (k + 64, e, (mm_RM r), I, J, A, B)) := by
  rw [sp_Mwinner k r e I J A B h.1, h.2.2.1, h.2.2.2.1, t.2.2.1]
  unfold wnr
  by_cases q : lo = 0
  · rw [if_pos q, if_pos q, if_pos rfl]
  · rw [if_neg q, if_neg q, if_neg (fun z => (iN_ne (a := 2 - lo) (by omega)).1 z)]
theorem clkP_M (x1 x2 x3 : Int32) : f_X11_clocks [.ref 39, .int x1, .int x2, .int x3] (k + 64, e, (mm_RM r), I, J, A, B) = mm_run (mm_pr tb_X11_clocks) (50, [some (.ref 39), some (.int x1), some (.int x2), some (.int x3), some (.int (bi (clkP x1 x2 x3))), none], [.int (bi (clkP x1 x2 x3))], (k + 64, e, (mm_RM r), mm_up I 39 39 (bi (!clkP x1 x2 x3)), J, A, B)) := by
  have t42 : ∀ b : Bool, mm_run (mm_pr tb_X11_clocks) (42, [some (.ref 39), some (.int x1), some (.int x2), some (.int x3), none, none], [.int (bi b)], (k + 64, e, (mm_RM r), I, J, A, B)) = mm_run (mm_pr tb_X11_clocks) (50, [some (.ref 39), some (.int x1), some (.int x2), some (.int x3), some (.int (bi b)), none], [.int (bi b)], (k + 64, e, (mm_RM r), mm_up I 39 39 (bi (!b)), J, A, B)) := by
    intro b
    rw [sg_X11_clocks_42, sp_Masks, mm_aft_v]
  rw [en_X11_clocks, sg_X11_clocks_0, sp_Min, mm_aft_v]
  show mm_run _ (8, _, [.int (bi (rgP x1 0 3600))], _) = _
  have un : clkP x1 x2 x3 = (rgP x1 0 3600 && rgP x2 0 9 && rgP x3 1 60 && !decide (x1 + x2 = 0)) := rfl
  rw [sg_X11_clocks_8, un]
  cases q1 : rgP x1 0 3600 with
  | false => rw [if_pos (show bi false = 0 from rfl), sg_X11_clocks_41]; exact t42 false
  | true =>
    rw [if_neg (show ¬ bi true = 0 by decide), sp_Min, mm_aft_v]
    show mm_run _ (18, _, [.int (bi (rgP x2 0 9))], _) = _
    rw [sg_X11_clocks_18, Bool.true_and]
    cases q2 : rgP x2 0 9 with
    | false => rw [if_pos (show bi false = 0 from rfl), sg_X11_clocks_41]; exact t42 false
    | true =>
      rw [if_neg (show ¬ bi true = 0 by decide), sp_Min, mm_aft_v]
      show mm_run _ (28, _, [.int (bi (rgP x3 1 60))], _) = _
      rw [sg_X11_clocks_28, Bool.true_and]
      cases q3 : rgP x3 1 60 with
      | false => rw [if_pos (show bi false = 0 from rfl), sg_X11_clocks_41]; exact t42 false
      | true =>
        obtain ⟨s, s1, s2, s3⟩ := rg_cases (lo := 0) (hi := 3600) (by decide) (by decide) q1
        obtain ⟨p, p1, p2, p3⟩ := rg_cases (lo := 0) (hi := 9) (by decide) (by decide) q2
        rw [if_neg (show ¬ bi true = 0 by decide), Bool.true_and]
        by_cases y : 0 < s + p
        · have y1 : (0 : Int32) < x1 + x2 := by rw [s3, p3, i32_add, show (0 : Int32) = i32 0 from rfl, i32_lt (by decide) (by omega)]; exact y
          have y2 : ¬ x1 + x2 = 0 := by rw [s3, p3, i32_add, show (0 : Int32) = i32 0 from rfl, i32_eq (by omega) (by decide)]; omega
          rw [if_pos y1, decide_eq_false y2]
          exact t42 true
        · have y1 : ¬ (0 : Int32) < x1 + x2 := by rw [s3, p3, i32_add, show (0 : Int32) = i32 0 from rfl, i32_lt (by decide) (by omega)]; exact y
          have y2 : x1 + x2 = 0 := by rw [s3, p3, i32_add, show (0 : Int32) = i32 0 from rfl, i32_eq (by omega) (by decide)]; omega
          rw [if_neg y1, decide_eq_true y2, sg_X11_clocks_41]
          exact t42 false
theorem cM_clocks_1 {x1 x2 x3 : Int32} (hx : clkP x1 x2 x3 = false) : f_X11_clocks [.ref 39, .int x1, .int x2, .int x3] (k + 64, e, (mm_RM r), I, J, A, B) = some (.inl none, (k + 64, e, (mm_RM r), mm_up I 39 39 (i32 1), J, A, B)) := by
  rw [clkP_M, hx, sg_X11_clocks_50, if_pos (show bi false = 0 from rfl)]
  rfl
theorem cM_clocks_2 (h : MG K R C lg m sw I A B) (t : TM ea tk se pe us lo I A) (hl : lo ≤ 2) {x1 x2 x3 : Int32} (hx : clkP x1 x2 x3 = true) (late : tk = true ∨ 0 < m ∨ ¬ wnr K R C lg m sw lo = iN) : f_X11_clocks [.ref 39, .int x1, .int x2, .int x3] (k + 64, e, (mm_RM r), I, J, A, B) = some (.inl none, (k + 64, e, (mm_RM r), mm_up (mm_up I 39 39 (i32 0)) 39 39 (i32 2), J, A, B)) := by
  have hm := h.2.1.2.2.1
  have hG := h.fr (FM.th I J A B (i32 0))
  have tG := TM.th I A (x := i32 0) t
  rw [clkP_M, hx, show bi (!true) = i32 0 from rfl, sg_X11_clocks_50, if_neg (show ¬ bi true = 0 by decide), tG.2.1]
  cases tk with
  | true => rw [if_neg (show ¬ bi true = 0 by decide), sg_X11_clocks_76]; rfl
  | false =>
    rw [if_pos (show bi false = 0 from rfl), hG.2.1.1]
    by_cases q : 0 < m
    · rw [if_pos (show (0 : Int32) < i32 m from (i32_lt (a := 0) (by decide) (by omega)).2 q), sg_X11_clocks_76]; rfl
    · rw [if_neg (show ¬ (0 : Int32) < i32 m from fun z => q ((i32_lt (a := 0) (by decide) (by omega)).1 z)), sp_MwinnerG k r e _ J A B hG tG hl, mm_aft_v, sg_X11_clocks_72]
      rcases late with z | z | z
      · cases z
      · exact absurd z q
      · rw [if_neg (show ¬ wnr K R C lg m sw lo = (-1 : Int32) from z), sg_X11_clocks_76]; rfl
theorem cM_clocks (h : MG K R C lg m sw I A B) (t : TM ea false se pe us lo I A) (hl : lo ≤ 2) {s p c : Nat} (h1 : s ≤ 3600) (h2 : p ≤ 9) (h3 : 1 ≤ c) (h4 : c ≤ 60) (h5 : 0 < s + p) (m0 : m = 0) (hw : wnr K R C lg m sw lo = iN) : ∃ I' A', f_X11_clocks [.ref 39, .int (i32 s), .int (i32 p), .int (i32 c)] (k + 64, e, (mm_RM r), I, J, A, B) = some (.inl none, (k + 64, e, (mm_RM r), I', J, A', B)) ∧ I' 39 39 = i32 0 ∧ TM c true (fun _ => s) (fun _ => p) (fun _ => 0) 0 I' A' ∧ FW I I' A A' := by
  have l0 := (wnr_lo hl hw).1
  have hG := h.fr (FM.th I J A B (i32 0))
  have tG := TM.th I A (x := i32 0) t
  have fin : ∃ A', mm_run (mm_pr tb_X11_clocks) (95, [some (.ref 39), some (.int (i32 s)), some (.int (i32 p)), some (.int (i32 c)), some (.int (bi true)), some (.int (0 : Int32))], [], (k + 64, e, (mm_RM r), mm_up (mm_up (mm_up I 39 39 (i32 0)) 39 15 (1 : Int32)) 39 16 (i32 c), J, A, B)) = some (.inl none, (k + 64, e, (mm_RM r), mm_up (mm_up (mm_up I 39 39 (i32 0)) 39 15 (1 : Int32)) 39 16 (i32 c), J, A', B)) ∧ (∀ q, q < 2 → A' 47 q = i32 s ∧ A' 48 q = i32 p ∧ A' 49 q = i32 0) ∧ (∀ i, i ≠ 47 → i ≠ 48 → i ≠ 49 → A' i = A i) := by
    refine ⟨mm_up (mm_up (mm_up (mm_up (mm_up (mm_up A 47 0 (i32 s)) 48 0 (i32 p)) 49 0 (i32 0)) 47 1 (i32 s)) 48 1 (i32 p)) 49 1 (i32 0), ?_, ?_, ?_⟩
    · rw [sg_X11_clocks_95]
      simp (disch := omega) only [i32_l, iN_l, i32_add, i32_mul, i32_r0, i32_r1, run_bi, run_bi', i32_sub, decide_eq_true_eq, bi_rt, bi_em, bi_0, bi_1, i32_lt, i32_eq, iN_ne, iN_lt, iN_nlt, i32_ix, i32_in,  mm_aft_v, mm_aft_n, mm_aft_x, if_pos, if_neg, ite_true, ite_false, if_true, if_false, not_false_eq_true, not_true_eq_false]
      rw [sg_X11_clocks_95]
      simp (disch := omega) only [i32_l, iN_l, i32_add, i32_mul, i32_r0, i32_r1, run_bi, run_bi', i32_sub, decide_eq_true_eq, bi_rt, bi_em, bi_0, bi_1, i32_lt, i32_eq, iN_ne, iN_lt, iN_nlt, i32_ix, i32_in,  mm_aft_v, mm_aft_n, mm_aft_x, if_pos, if_neg, ite_true, ite_false, if_true, if_false, not_false_eq_true, not_true_eq_false]
      rw [sg_X11_clocks_95]
      simp (disch := omega) only [i32_l, iN_l, i32_add, i32_mul, i32_r0, i32_r1, run_bi, run_bi', i32_sub, decide_eq_true_eq, bi_rt, bi_em, bi_0, bi_1, i32_lt, i32_eq, iN_ne, iN_lt, iN_nlt, i32_ix, i32_in,  mm_aft_v, mm_aft_n, mm_aft_x, if_pos, if_neg, ite_true, ite_false, if_true, if_false, not_false_eq_true, not_true_eq_false]
    · intro q hq
      have : q = 0 ∨ q = 1 := by omega
      rcases this with y | y <;> subst y <;> exact ⟨rfl, rfl, rfl⟩
    · intro i a b c'
      rw [mm_up_row _ _ _ _ _ c', mm_up_row _ _ _ _ _ b, mm_up_row _ _ _ _ _ a, mm_up_row _ _ _ _ _ c', mm_up_row _ _ _ _ _ b, mm_up_row _ _ _ _ _ a]
  obtain ⟨A', a1, a2, a3⟩ := fin
  refine ⟨mm_up (mm_up (mm_up I 39 39 (i32 0)) 39 15 (1 : Int32)) 39 16 (i32 c), A', ?_, ?_, ⟨fun _ => by rw [mm_up_eq], ?_, ?_, a2⟩, ⟨fun i hi => ?_, fun q q1 q2 q3 q4 => ?_, a3⟩⟩
  · rw [clkP_M, clk_ok h1 h2 h3 h4 h5, show bi (!true) = i32 0 from rfl, sg_X11_clocks_50, if_neg (show ¬ bi true = 0 by decide), tG.2.1, if_pos (show bi false = 0 from rfl), hG.2.1.1, if_neg (show ¬ (0 : Int32) < i32 m by rw [m0]; decide), sp_MwinnerG k r e _ J A B hG tG hl, mm_aft_v, sg_X11_clocks_72, if_pos (show wnr K R C lg m sw lo = (-1 : Int32) from hw)]
    exact a1
  · rw [mm_up_ne2 _ _ _ _ _ _ (by decide), mm_up_ne2 _ _ _ _ _ _ (by decide), mm_up_eq]
  · rw [mm_up_ne2 _ _ _ _ _ _ (by decide), mm_up_eq]; rfl
  · rw [mm_up_ne2 _ _ _ _ _ _ (by decide), mm_up_ne2 _ _ _ _ _ _ (by decide), tG.2.2.1, l0]
  · rw [mm_up_row _ _ _ _ _ hi, mm_up_row _ _ _ _ _ hi, mm_up_row _ _ _ _ _ hi]
  · rw [mm_up_ne2 _ _ _ _ _ _ q3, mm_up_ne2 _ _ _ _ _ _ q2, mm_up_ne2 _ _ _ _ _ _ q4]
theorem cM_think_ask (x : Int32) : f_X11_think [.ref 39, .int x] (k + 64, e, (mm_RM r), I, J, A, B) = mm_run (mm_pr tb_X11_think) (12, [some (.ref 39), some (.int x), none, none], [.int (bi (rgP x 1 600))], (k + 64, e, (mm_RM r), mm_up I 39 39 (bi (!rgP x 1 600)), J, A, B)) := by
  rw [en_X11_think, sg_X11_think_0, sp_Min, mm_aft_v]
  show mm_run _ (9, _, [.int (bi (rgP x 1 600)), .ref 39], _) = _
  rw [sg_X11_think_9, sp_Masks, mm_aft_v]
theorem cM_think_1 {x : Int32} (hx : rgP x 1 600 = false) : f_X11_think [.ref 39, .int x] (k + 64, e, (mm_RM r), I, J, A, B) = some (.inl (some (.int (i32 0))), (k + 64, e, (mm_RM r), mm_up I 39 39 (i32 1), J, A, B)) := by
  rw [cM_think_ask, hx, sg_X11_think_12, if_pos (show bi false = 0 from rfl)]
  rfl
theorem th_ok {t : Nat} (h1 : 1 ≤ t) (h2 : t ≤ 600) : rgP (i32 t) 1 600 = true := by
  show rgP (i32 t) (i32 1) (i32 600) = true
  rw [rg_ok (by decide) (by decide) (by omega), decide_eq_true h1, decide_eq_true h2]; rfl
theorem cM_think_2 (h : MG K R C lg m sw I A B) (c : TM ea tk se pe us lo I A) (hl : lo ≤ 2) {t : Nat} (h1 : 1 ≤ t) (h2 : t ≤ 600) (no : tk = false ∨ ¬ wnr K R C lg m sw lo = iN) : f_X11_think [.ref 39, .int (i32 t)] (k + 64, e, (mm_RM r), I, J, A, B) = some (.inl (some (.int (i32 0))), (k + 64, e, (mm_RM r), mm_up (mm_up I 39 39 (i32 0)) 39 39 (i32 2), J, A, B)) := by
  have hG := h.fr (FM.th I J A B (i32 0))
  have tG := TM.th I A (x := i32 0) c
  rw [cM_think_ask, th_ok h1 h2, show bi (!true) = i32 0 from rfl, sg_X11_think_12, if_neg (show ¬ bi true = 0 by decide), tG.2.1, sg_X11_think_32, sp_Mfails, mm_aft_v, sg_X11_think_37]
  cases tk with
  | false => rw [if_pos (show bi false = 0 from rfl)]; rfl
  | true =>
    rw [if_neg (show ¬ bi true = 0 by decide), sp_MwinnerG k r e _ J A B hG tG hl, mm_aft_v, sg_X11_think_28]
    rcases no with z | z
    · cases z
    · rw [if_neg (show ¬ wnr K R C lg m sw lo = (-1 : Int32) from z), sg_X11_think_32, sp_Mfails, mm_aft_v, sg_X11_think_37]; rfl
theorem think_loop (hE : I 39 16 = i32 ea) (h0 : 1 ≤ ea) (he : ea ≤ 60) {p : Nat} (hp : p < 2) (x1 x3 : Int32) : ∀ (q u : Nat) (A : Nat → Nat → Int32), q ≤ 9 → u ≤ 2000 → A 48 p = i32 q → A 49 p = i32 u → ∃ A', mm_run (mm_pr tb_X11_think) (88, [some (.ref 39), some (.int x1), some (.int (i32 p)), some (.int x3)], [], (k + 64, e, (mm_RM r), I, J, A, B)) = mm_run (mm_pr tb_X11_think) (136, [some (.ref 39), some (.int x1), some (.int (i32 p)), some (.int x3)], [], (k + 64, e, (mm_RM r), I, J, A', B)) ∧ A' 48 p = i32 (q - min q (u / ea)) ∧ A' 49 p = i32 (u - min q (u / ea) * ea) ∧ (∀ j, j ≠ p → A' 48 j = A 48 j ∧ A' 49 j = A 49 j) ∧ (∀ i, i ≠ 48 → i ≠ 49 → A' i = A i) := by
  have cin : (0 ≤ (i32 p).toInt ∧ (i32 p).toInt < 2) := (i32_in (by omega)).2 (by omega)
  intro q
  induction q with
  | zero =>
    intro u A hq hu h48 h49
    have ix : (i32 p).toInt.toNat = p := i32_ix (by omega)
    refine ⟨A, ?_, by rw [Nat.zero_min, h48], by rw [Nat.zero_min, Nat.zero_mul, Nat.sub_zero, h49], fun _ _ => ⟨rfl, rfl⟩, fun _ _ _ => rfl⟩
    rw [sg_X11_think_88, if_pos cin, ix, h49, hE]
    by_cases c : u < ea
    · rw [if_pos ((i32_lt (by omega) (by omega)).2 c)]
    · rw [if_neg (fun z => c ((i32_lt (by omega) (by omega)).1 z)), if_pos cin, h48, if_neg (show ¬ (0 : Int32) < i32 0 by decide)]
  | succ q ih =>
    intro u A hq hu h48 h49
    have ix : (i32 p).toInt.toNat = p := i32_ix (by omega)
    by_cases c : u < ea
    · refine ⟨A, ?_, by rw [Nat.div_eq_of_lt c, Nat.min_zero, Nat.sub_zero, h48], by rw [Nat.div_eq_of_lt c, Nat.min_zero, Nat.zero_mul, Nat.sub_zero, h49], fun _ _ => ⟨rfl, rfl⟩, fun _ _ _ => rfl⟩
      rw [sg_X11_think_88, if_pos cin, ix, h49, hE, if_pos ((i32_lt (by omega) (by omega)).2 c)]
    · have md := min_div (q := q) (u := u) (c := ea) (by omega) (by omega)
      obtain ⟨A', a1, a2, a3, a4, a5⟩ := ih (u - ea) (mm_up (mm_up A 49 p (i32 (u - ea))) 48 p (i32 q)) (by omega) (by omega) (by rw [mm_up_eq]) (by rw [mm_up_ne1 _ _ _ _ _ _ (by decide), mm_up_eq])
      refine ⟨A', ?_, ?_, ?_, fun j hj => ?_, fun i i1 i2 => ?_⟩
      · rw [← a1, sg_X11_think_88, if_pos cin, ix, h49, hE, if_neg (fun z => c ((i32_lt (by omega) (by omega)).1 z)), if_pos cin, h48, if_pos (show (0 : Int32) < i32 (q + 1) from (i32_lt (a := 0) (by decide) (by omega)).2 (by omega)), if_pos cin, if_pos cin, if_pos cin, if_pos cin, i32_sub (by omega)]
        simp only [i32_l]
        rw [i32_sub (by omega), Nat.add_sub_cancel]
      · rw [a2, md]; congr 1; omega
      · rw [a3, md, Nat.add_mul, Nat.one_mul]; congr 1; omega
      · rw [(a4 j hj).1, (a4 j hj).2, mm_up_ne2 _ _ _ _ _ _ hj, mm_up_ne1 _ _ _ _ _ _ (by decide), mm_up_ne1 _ _ _ _ _ _ (by decide), mm_up_ne2 _ _ _ _ _ _ hj]
        exact ⟨rfl, rfl⟩
      · rw [a5 i i1 i2, mm_up_row _ _ _ _ _ i1, mm_up_row _ _ _ _ _ i2]
theorem cM_think (h : MG K R C lg m sw I A B) (c : TM ea true se pe us lo I A) (hb : TB ea true se pe us lo) {t : Nat} (h1 : 1 ≤ t) (h2 : t ≤ 600) (hw : wnr K R C lg m sw lo = iN) : ∃ I' A', f_X11_think [.ref 39, .int (i32 t)] (k + 64, e, (mm_RM r), I, J, A, B) = some (.inl (some (.int (wnr K R C lg m sw (usL ea se pe us (m % 2) t)))), (k + 64, e, (mm_RM r), I', J, A', B)) ∧ I' 39 39 = i32 0 ∧ TM ea true (seV se (m % 2) t) (peV ea se pe us (m % 2) t) (usV ea se pe us (m % 2) t) (usL ea se pe us (m % 2) t) I' A' ∧ FW I I' A A' := by
  obtain ⟨l0, hj⟩ := wnr_lo hb.1 hw
  subst l0
  have hG := h.fr (FM.th I J A B (i32 0))
  have tG := TM.th I A (x := i32 0) c
  obtain ⟨I0, hI0⟩ : ∃ I0, I0 = mm_up I 39 39 (i32 0) := ⟨_, rfl⟩
  rw [← hI0] at hG tG
  obtain ⟨p, hp'⟩ : ∃ p, p = m % 2 := ⟨_, rfl⟩
  have hp : p < 2 := by omega
  have ix : (i32 p).toInt.toNat = p := i32_ix (by omega)
  have cin : (0 ≤ (i32 p).toInt ∧ (i32 p).toInt < 2) := (i32_in (by omega)).2 (by omega)
  obtain ⟨b1, b2, b3⟩ := hb
  have be := b2 rfl
  have b := b3 p hp
  have bu := b.2.2.2.1 rfl
  have g := tG.2.2.2 p hp
  have o1 : min t (se p) ≤ t := Nat.min_le_left _ _
  have o2 : min t (se p) ≤ se p := Nat.min_le_right _ _
  have ov : min t (se p) = t ∨ min t (se p) = se p := by omega
  -- what goes beyond the seconds
  have st : mm_run (mm_pr tb_X11_think) (42, [some (.ref 39), some (.int (i32 t)), none, none], [.int (i32 p)], (k + 64, e, (mm_RM r), I0, J, A, B)) = mm_run (mm_pr tb_X11_think) (88, [some (.ref 39), some (.int (i32 t)), some (.int (i32 p)), some (.int (i32 (t - min t (se p))))], [], (k + 64, e, (mm_RM r), I0, J, mm_up (mm_up A 47 p (i32 (se p - min t (se p)))) 49 p (i32 (us p + (t - min t (se p)))), B)) := by
    have t65 : mm_run (mm_pr tb_X11_think) (65, [some (.ref 39), some (.int (i32 t)), some (.int (i32 p)), none], [.int (i32 (t - min t (se p)))], (k + 64, e, (mm_RM r), I0, J, A, B)) = mm_run (mm_pr tb_X11_think) (88, [some (.ref 39), some (.int (i32 t)), some (.int (i32 p)), some (.int (i32 (t - min t (se p))))], [], (k + 64, e, (mm_RM r), I0, J, mm_up (mm_up A 47 p (i32 (se p - min t (se p)))) 49 p (i32 (us p + (t - min t (se p)))), B)) := by
      rw [sg_X11_think_65, if_pos cin, if_pos cin, if_pos cin, if_pos cin, ix, g.1, g.2.2, i32_sub (by omega), i32_sub (by omega), i32_add, show se p - (t - (t - min t (se p))) = se p - min t (se p) by omega]
    rw [← t65, sg_X11_think_42, if_pos cin, ix, g.1]
    by_cases y : se p < t
    · rw [if_pos ((i32_lt (by omega) (by omega)).2 y), if_pos cin, i32_sub (by omega), show min t (se p) = se p by omega]
    · rw [if_neg (fun z => y ((i32_lt (by omega) (by omega)).1 z)), show t - min t (se p) = 0 by omega]
      rfl
  obtain ⟨A', a1, a2, a3, a4, a5⟩ := think_loop k r e I0 J B (tG.1 rfl) be.1 be.2 hp (i32 t) (i32 (t - min t (se p))) (pe p) (us p + (t - min t (se p))) (mm_up (mm_up A 47 p (i32 (se p - min t (se p)))) 49 p (i32 (us p + (t - min t (se p))))) b.2.1 (by omega) (by rw [mm_up_ne1 _ _ _ _ _ _ (by decide), mm_up_ne1 _ _ _ _ _ _ (by decide)]; exact g.2.1) (by rw [mm_up_eq])
  have mo : us p + (t - min t (se p)) = us p + t - min t (se p) := by omega
  rw [mo] at a2 a3
  have tA : ∀ q, q < 2 → A' 47 q = i32 (seV se p t q) ∧ A' 48 q = i32 (peV ea se pe us p t q) ∧ A' 49 q = i32 (usV ea se pe us p t q) := by
    intro q hq
    have g' := tG.2.2.2 q hq
    rw [a5 47 (by decide) (by decide)]
    unfold seV peV usV upN
    by_cases y : q = p
    · subst y
      rw [if_pos rfl, if_pos rfl, if_pos rfl, mm_up_ne1 _ _ _ _ _ _ (by decide), mm_up_eq]
      exact ⟨rfl, a2, a3⟩
    · rw [if_neg y, if_neg y, if_neg y, (a4 q y).1, (a4 q y).2, mm_up_ne1 _ _ _ _ _ _ (by decide), mm_up_ne2 _ _ _ _ _ _ y, mm_up_ne1 _ _ _ _ _ _ (by decide), mm_up_ne1 _ _ _ _ _ _ (by decide), mm_up_ne2 _ _ _ _ _ _ y, mm_up_ne1 _ _ _ _ _ _ (by decide)]
      exact g'
  have fin : mm_run (mm_pr tb_X11_think) (136, [some (.ref 39), some (.int (i32 t)), some (.int (i32 p)), some (.int (i32 (t - min t (se p))))], [], (k + 64, e, (mm_RM r), I0, J, A', B)) = some (.inl (some (.int (if usL ea se pe us p t = 0 then iN else i32 (2 - usL ea se pe us p t)))), (k + 64, e, (mm_RM r), mm_up I0 39 13 (if usL ea se pe us p t = 0 then iN else i32 (2 - usL ea se pe us p t)), J, A', B)) := by
    have d : pe p - min (pe p) ((us p + t - min t (se p)) / ea) ≤ 9 := Nat.le_trans (Nat.sub_le _ _) b.2.1
    have us1 : usL ea se pe us p t = if pe p - min (pe p) ((us p + t - min t (se p)) / ea) = 0 ∧ 0 < us p + t - min t (se p) then p + 1 else 0 := rfl
    rw [us1]
    generalize pe p - min (pe p) ((us p + t - min t (se p)) / ea) = rest at a2 d ⊢
    have same : (0 < us p + t - min t (se p)) ↔ 0 < t - min t (se p) := by
      constructor
      · intro z
        rcases ov with w | w
        · have := b.2.2.2.2 (by omega)
          omega
        · by_cases v : 0 < us p
          · have := b.2.2.2.2 v; omega
          · omega
      · intro z; omega
    rw [sg_X11_think_136]
    by_cases y : 0 < t - min t (se p)
    · rw [if_pos (show (0 : Int32) < i32 (t - min t (se p)) from (i32_lt (a := 0) (by decide) (by omega)).2 y), if_pos cin, ix, a2]
      by_cases x : rest = 0
      · rw [if_pos (show rest = 0 ∧ 0 < us p + t - min t (se p) from ⟨x, same.2 y⟩), if_neg (show ¬ p + 1 = 0 by omega), if_pos (show i32 rest = 0 by rw [x]; rfl), sg_X11_think_157, show (1 : Int32) = i32 1 from rfl, i32_sub (by omega), show 2 - (p + 1) = 1 - p by omega]
      · rw [if_neg (show ¬ (rest = 0 ∧ 0 < us p + t - min t (se p)) from fun z => x z.1), if_pos rfl, if_neg (show ¬ i32 rest = 0 by rw [show (0 : Int32) = i32 0 from rfl, i32_eq (by omega) (by decide)]; exact x), sg_X11_think_156, sg_X11_think_157]
        rfl
    · rw [if_neg (show ¬ (0 : Int32) < i32 (t - min t (se p)) from fun z => y ((i32_lt (a := 0) (by decide) (by omega)).1 z)), if_neg (show ¬ (rest = 0 ∧ 0 < us p + t - min t (se p)) from fun z => y (same.1 z.2)), if_pos rfl, sg_X11_think_156, sg_X11_think_157]
      rfl
  have wn : wnr K R C lg m sw (usL ea se pe us p t) = (if usL ea se pe us p t = 0 then iN else i32 (2 - usL ea se pe us p t)) := by
    unfold wnr
    rw [hj]
  rw [← hp', wn]
  refine ⟨mm_up I0 39 13 (if usL ea se pe us p t = 0 then iN else i32 (2 - usL ea se pe us p t)), A', ?_, ?_, ⟨fun z => ?_, ?_, by rw [mm_up_eq], tA⟩, ⟨fun i hi => ?_, fun q q1 q2 q3 q4 => ?_, fun i i1 i2 i3 => ?_⟩⟩
  · rw [cM_think_ask, th_ok h1 h2, show bi (!true) = i32 0 from rfl, ← hI0, sg_X11_think_12, if_neg (show ¬ bi true = 0 by decide), tG.2.1, if_neg (show ¬ bi true = 0 by decide), sp_MwinnerG k r e _ J A B hG tG (by decide), mm_aft_v, sg_X11_think_28, if_pos (show wnr K R C lg m sw 0 = (-1 : Int32) from hw), sp_Mturn k r e I0 J A B hG.2.1.1 hG.2.1.2.2.1, mm_aft_v, ← hp', st, a1, fin]
  · rw [mm_up_ne2 _ _ _ _ _ _ (by decide), hI0, mm_up_eq]
  · rw [mm_up_ne2 _ _ _ _ _ _ (by decide)]; exact tG.1 z
  · rw [mm_up_ne2 _ _ _ _ _ _ (by decide)]; exact tG.2.1
  · rw [mm_up_row _ _ _ _ _ hi, hI0, mm_up_row _ _ _ _ _ hi]
  · rw [mm_up_ne2 _ _ _ _ _ _ q1, hI0, mm_up_ne2 _ _ _ _ _ _ q4]
  · rw [a5 i i2 i3, mm_up_row _ _ _ _ _ i3, mm_up_row _ _ _ _ _ i1]
theorem cM_clock_1 {x y : Int32} (hx : plaP x = false) : f_X11_clock [.ref 39, .int x, .int y] (k + 64, e, (mm_RM r), I, J, A, B) = some (.inl (some (.int (i32 0))), (k + 64, e, (mm_RM r), mm_up I 39 39 (i32 1), J, A, B)) := by
  rw [en_X11_clock, sg_X11_clock_0, sp_MisPlayer, plaP_M, hx, mm_aft_v, sg_X11_clock_5, sp_Masks, mm_aft_v, sg_X11_clock_8, if_pos (show bi false = 0 from rfl)]
  rfl
theorem cM_clock_2 {x y : Int32} (hx : plaP x = true) (hy : rgP y 0 2 = false) : f_X11_clock [.ref 39, .int x, .int y] (k + 64, e, (mm_RM r), I, J, A, B) = some (.inl (some (.int (i32 0))), (k + 64, e, (mm_RM r), mm_up (mm_up I 39 39 (i32 0)) 39 39 (i32 2), J, A, B)) := by
  rw [en_X11_clock, sg_X11_clock_0, sp_MisPlayer, plaP_M, hx, mm_aft_v, sg_X11_clock_5, sp_Masks, mm_aft_v, sg_X11_clock_8, if_neg (show ¬ bi true = 0 by decide), sp_Min, mm_aft_v]
  show mm_run _ (19, _, [.int (bi (rgP y 0 2))], _) = _
  rw [hy, sg_X11_clock_19, if_pos (show bi false = 0 from rfl), sp_Mfails, mm_aft_v, sg_X11_clock_27]
  rfl
theorem cM_clock (t : TM ea tk se pe us lo I A) {p w : Nat} (hp : p < 2) (hw : w ≤ 2) : f_X11_clock [.ref 39, .int (i32 p), .int (i32 w)] (k + 64, e, (mm_RM r), I, J, A, B) = some (.inl (some (.int (if w = 0 then i32 (se p) else if w = 1 then i32 (pe p) else i32 (us p)))), (k + 64, e, (mm_RM r), mm_up I 39 39 (i32 0), J, A, B)) := by
  have g := t.2.2.2 p hp
  have ix : (i32 p).toInt.toNat = p := i32_ix (by omega)
  have cin : (0 ≤ (i32 p).toInt ∧ (i32 p).toInt < 2) := (i32_in (by omega)).2 (by omega)
  have hy : rgP (i32 w) 0 2 = true := by
    show rgP (i32 w) (i32 0) (i32 2) = true
    rw [rg_ok (by decide) (by decide) (by omega), decide_eq_true (Nat.zero_le _), decide_eq_true hw]; rfl
  rw [en_X11_clock, sg_X11_clock_0, sp_MisPlayer, plaP_M, plaP_i hp, mm_aft_v, sg_X11_clock_5, sp_Masks, mm_aft_v, sg_X11_clock_8, if_neg (show ¬ bi true = 0 by decide), sp_Min, mm_aft_v]
  show mm_run _ (19, _, [.int (bi (rgP (i32 w) 0 2))], _) = _
  rw [hy, sg_X11_clock_19, if_neg (show ¬ bi true = 0 by decide), show bi (!true) = i32 0 from rfl]
  have : w = 0 ∨ w = 1 ∨ w = 2 := by omega
  rcases this with q | q | q
  · subst q
    rw [if_pos (show i32 0 = 0 from rfl), if_pos cin, ix, g.1, sg_X11_clock_61]; rfl
  · subst q
    rw [if_neg (show ¬ i32 1 = 0 by decide), if_pos (show i32 1 = (1 : Int32) from rfl), if_pos cin, ix, g.2.1, sg_X11_clock_61]; rfl
  · subst q
    rw [if_neg (show ¬ i32 2 = 0 by decide), if_neg (show ¬ i32 2 = (1 : Int32) by decide), if_pos cin, ix, g.2.2, sg_X11_clock_61]; rfl
end
