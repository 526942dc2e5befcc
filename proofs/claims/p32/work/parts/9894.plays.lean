/-! playing out: both sides' calls -/
noncomputable def poV (K R C : Nat) (lg : Nat → Nat) (m : Nat) (sw : Bool) (s : Nat) : Int64 := po K R C (gn (emp (bN K R C) (sN lg m sw 0) (sN lg m sw 1))) (sN lg m sw 0) (sN lg m sw 1) (m % 2) 64 s
noncomputable def plV (K R C : Nat) (lg : Nat → Nat) (m : Nat) (sw : Bool) (s : Nat) (n : Nat) : Nat := cf (fun i => jnB K R C 0 (poV K R C lg m sw (s + i))) n
def rgP (x lo hi : Int32) : Bool := !decide (x < lo) && !decide (hi < x)
theorem rg_cases {x : Int32} {lo hi : Nat} (hl : lo < 2147483648) (hh : hi < 2147483648) (h : rgP x (i32 lo) (i32 hi) = true) : ∃ n, lo ≤ n ∧ n ≤ hi ∧ x = i32 n := by
  unfold rgP at h
  rw [Bool.and_eq_true, Bool.not_eq_true', Bool.not_eq_true', decide_eq_false_iff_not, decide_eq_false_iff_not] at h
  rcases i32_cases x with q | ⟨n, n1, n2⟩
  · exact absurd (Int32.lt_of_lt_of_le q (by rw [Int32.le_iff_toInt_le, i32_toInt hl, i32_toInt (by decide)]; omega)) h.1
  · rw [n2, i32_lt n1 hl, i32_lt hh n1] at h
    exact ⟨n, by omega, by omega, n2⟩
theorem rg_ok {n lo hi : Nat} (hl : lo < 2147483648) (hh : hi < 2147483648) (hn : n < 2147483648) : rgP (i32 n) (i32 lo) (i32 hi) = (decide (lo ≤ n) && decide (n ≤ hi)) := by
  unfold rgP
  by_cases q : n < lo
  · rw [decide_eq_true ((i32_lt hn hl).2 q), decide_eq_false (show ¬ lo ≤ n by omega)]; rfl
  · rw [decide_eq_false (fun z => q ((i32_lt hn hl).1 z)), decide_eq_true (show lo ≤ n by omega)]
    by_cases y : hi < n
    · rw [decide_eq_true ((i32_lt hh hn).2 y), decide_eq_false (show ¬ n ≤ hi by omega)]; rfl
    · rw [decide_eq_false (fun z => y ((i32_lt hh hn).1 z)), decide_eq_true (show n ≤ hi by omega)]; rfl
theorem rg_no {x lo hi : Int32} (h : rgP x lo hi = false) : x < lo ∨ hi < x := by
  unfold rgP at h
  by_cases q : x < lo
  · exact Or.inl q
  · rw [decide_eq_false q, Bool.not_false, Bool.true_and, Bool.not_eq_false', decide_eq_true_eq] at h
    exact Or.inr h
section
variable {K R C : Nat} {lg : Nat → Nat} {m : Nat} {sw : Bool} (e : Nat) (I : Nat → Nat → Int32) (J : Nat → Nat → Int64) (A : Nat → Nat → Int32) (B : Nat → Nat → Int64)
theorem CG.j23 {J' : Nat → Nat → Int64} (h : CG K R C lg m sw I J A B) (hj : ∀ j, j ≠ 23 → J' j = J j) : BQ K R C I J' A B ∧ FC I I J J' A A B B :=
  ⟨BQ.fr I J A B h.2.2.2.2.2.1 rfl rfl rfl (hj 1 (by decide)) (hj 9 (by decide)) rfl rfl rfl rfl rfl rfl rfl rfl rfl, fun _ _ _ _ _ => rfl, fun j _ _ h3 => hj j h3, fun _ _ _ _ _ _ _ _ => rfl, fun _ => rfl⟩
theorem sp_playedOutFrom (h : CG K R C lg m sw I J A B) {s : Nat} (hs : s < 2147483648) : ∃ J', f_X10_playedOutFrom [.ref 0, .int (i32 s)] (79, e, mm_R0, I, J, A, B) = some (.inl (some (.long (poV K R C lg m sw s))), (79, e, mm_R0, I, J', A, B)) ∧ ∀ j, j ≠ 23 → J' j = J j := by
  have gl : gn (emp (bN K R C) (sN lg m sw 0) (sN lg m sw 1)) ≤ 36 := cf_le _ _
  obtain ⟨J', a1, a2⟩ := sp_stonesOf0 (K := K) (R := R) (C := C) e I A B (sN lg m sw 0) (sN lg m sw 1) (i32 (m % 2)) (i32 s) _ 0 (sN lg m sw 0) (sN lg m sw 1) (m % 2) 64 s (mm_up J 23 1 (j64 s)) none none none (h.1.fr rfl (mm_up_row _ _ _ _ _ (by decide)) rfl rfl rfl rfl rfl) rfl (by omega) (by omega) (fun z => absurd z (by decide)) hs (mm_up_eq _ _ _ _)
  refine ⟨J', ?_, fun j hj => by rw [a2 j hj, mm_up_row _ _ _ _ _ hj]⟩
  rw [en_X10_playedOutFrom, sg_X10_playedOutFrom_0, sp0_mover e I J A B h, mm_aft_v, sg_X10_playedOutFrom_25, en_X7_stonesOf0, sg_X7_stonesOf0_0, h.2.2.1, h.2.2.2.1, i32_j64 hs]
  have a3 : mm_run (mm_pr tb_X7_stonesOf0) (23, [some (.ref 23), some (.long (sN lg m sw 0)), none, some (.long (sN lg m sw 1)), none, some (.int (i32 (m % 2))), some (.int (i32 s)), some (.long (sN lg m sw 0)), none, some (.long (sN lg m sw 1)), none, some (.int (i32 (m % 2))), some (.int (-1 : Int32)), some (.int (0 : Int32)), none, none, none], [], (79, e, mm_R0, I, mm_up J 23 1 (j64 s), A, B)) = _ := a1
  rw [a3, mm_aft_v, sg_X10_playedOutFrom_29]
  rfl
theorem cC_playedOut_1 {x : Int32} (hx : rgP x 0 1000000 = false) : f_X10_playedOut [.ref 0, .int x] (79, e, mm_R0, I, J, A, B) = some (.inr 2, (79, e + 1, mm_R0, I, J, A, B)) := by
  rw [en_X10_playedOut, sg_X10_playedOut_0, sg_X10_playedOut_11]
  by_cases q : x < 0
  · rw [if_pos q]
  · rw [if_neg q, if_pos ((rg_no hx).resolve_left q)]
theorem cC_playedOut_2 (h : CG K R C lg m sw I J A B) {s : Nat} (hs : s ≤ 1000000) (hj : ¬ jnd K R C (sN lg m sw 0) (sN lg m sw 1) = iN) : f_X10_playedOut [.ref 0, .int (i32 s)] (79, e, mm_R0, I, J, A, B) = some (.inr 3, (79, e + 1, mm_R0, I, J, A, B)) := by
  rw [en_X10_playedOut, sg_X10_playedOut_0, if_neg (show ¬ i32 s < (0 : Int32) by rw [show (0 : Int32) = i32 0 from rfl, i32_lt (by omega) (by decide)]; omega), if_neg (show ¬ (1000000 : Int32) < i32 s by rw [show (1000000 : Int32) = i32 1000000 from rfl, i32_lt (by decide) (by omega)]; omega), h.2.2.2.2.1, if_neg (show ¬ jnd K R C (sN lg m sw 0) (sN lg m sw 1) = (-1 : Int32) from hj)]
theorem cC_playedOut (h : CG K R C lg m sw I J A B) {s : Nat} (hs : s ≤ 1000000) (hj : jnd K R C (sN lg m sw 0) (sN lg m sw 1) = iN) : ∃ J', f_X10_playedOut [.ref 0, .int (i32 s)] (79, e, mm_R0, I, J, A, B) = some (.inl (some (.long (poV K R C lg m sw s))), (79, e, mm_R0, I, J', A, B)) ∧ BQ K R C I J' A B ∧ FC I I J J' A A B B := by
  obtain ⟨J', a1, a2⟩ := sp_playedOutFrom e I J A B h (s := s) (by omega)
  refine ⟨J', ?_, h.j23 I J A B a2⟩
  rw [en_X10_playedOut, sg_X10_playedOut_0, if_neg (show ¬ i32 s < (0 : Int32) by rw [show (0 : Int32) = i32 0 from rfl, i32_lt (by omega) (by decide)]; omega), if_neg (show ¬ (1000000 : Int32) < i32 s by rw [show (1000000 : Int32) = i32 1000000 from rfl, i32_lt (by decide) (by omega)]; omega), h.2.2.2.2.1, if_pos (show jnd K R C (sN lg m sw 0) (sN lg m sw 1) = (-1 : Int32) from hj), a1, mm_aft_v, sg_X10_playedOut_49]
theorem cC_plays_1 {x y : Int32} (hx : (rgP x 0 1000000 && rgP y 1 50) = false) : f_X10_plays [.ref 0, .int x, .int y] (79, e, mm_R0, I, J, A, B) = some (.inr 2, (79, e + 1, mm_R0, I, J, A, B)) := by
  rw [en_X10_plays, sg_X10_plays_0, sg_X10_plays_22]
  by_cases q : x < 0
  · rw [if_pos q]
  · rw [if_neg q]
    by_cases q2 : (1000000 : Int32) < x
    · rw [if_pos q2]
    · rw [if_neg q2]
      have hx1 : rgP x 0 1000000 = true := by unfold rgP; rw [decide_eq_false q, decide_eq_false q2]; rfl
      rw [hx1, Bool.true_and] at hx
      by_cases q3 : y < 1
      · rw [if_pos q3]
      · rw [if_neg q3, if_pos ((rg_no hx).resolve_left q3)]
theorem plays_start {s n : Nat} (hs : s ≤ 1000000) (h1 : 1 ≤ n) (h2 : n ≤ 50) : f_X10_plays [.ref 0, .int (i32 s), .int (i32 n)] (79, e, mm_R0, I, J, A, B) = if I 7 6 = (-1 : Int32) then mm_run (mm_pr tb_X10_plays) (60, [some (.ref 0), some (.int (i32 s)), some (.int (i32 n)), some (.int (0 : Int32)), some (.int (0 : Int32))], [], (79, e, mm_R0, I, J, A, B)) else some (.inr 3, (79, e + 1, mm_R0, I, J, A, B)) := by
  rw [en_X10_plays, sg_X10_plays_0, if_neg (show ¬ i32 s < (0 : Int32) by rw [show (0 : Int32) = i32 0 from rfl, i32_lt (by omega) (by decide)]; omega), if_neg (show ¬ (1000000 : Int32) < i32 s by rw [show (1000000 : Int32) = i32 1000000 from rfl, i32_lt (by decide) (by omega)]; omega), if_neg (show ¬ i32 n < (1 : Int32) by rw [show (1 : Int32) = i32 1 from rfl, i32_lt (by omega) (by decide)]; omega), if_neg (show ¬ (50 : Int32) < i32 n by rw [show (50 : Int32) = i32 50 from rfl, i32_lt (by decide) (by omega)]; omega)]
theorem cC_plays_2 (h : CG K R C lg m sw I J A B) {s n : Nat} (hs : s ≤ 1000000) (h1 : 1 ≤ n) (h2 : n ≤ 50) (hj : ¬ jnd K R C (sN lg m sw 0) (sN lg m sw 1) = iN) : f_X10_plays [.ref 0, .int (i32 s), .int (i32 n)] (79, e, mm_R0, I, J, A, B) = some (.inr 3, (79, e + 1, mm_R0, I, J, A, B)) := by
  rw [plays_start e I J A B hs h1 h2, h.2.2.2.2.1, if_neg (show ¬ jnd K R C (sN lg m sw 0) (sN lg m sw 1) = (-1 : Int32) from hj)]
theorem cC_plays (h : CG K R C lg m sw I J A B) {s n : Nat} (hs : s ≤ 1000000) (h1 : 1 ≤ n) (h2 : n ≤ 50) (hj : jnd K R C (sN lg m sw 0) (sN lg m sw 1) = iN) : ∃ J', f_X10_plays [.ref 0, .int (i32 s), .int (i32 n)] (79, e, mm_R0, I, J, A, B) = some (.inl (some (.int (i32 (plV K R C lg m sw s n)))), (79, e, mm_R0, I, J', A, B)) ∧ BQ K R C I J' A B ∧ FC I I J J' A A B B := by
  have L : ∀ (dd i : Nat) (J1 : Nat → Nat → Int64), i + dd = n → (∀ j, j ≠ 23 → J1 j = J j) → ∃ J', mm_run (mm_pr tb_X10_plays) (60, [some (.ref 0), some (.int (i32 s)), some (.int (i32 n)), some (.int (i32 (plV K R C lg m sw s i))), some (.int (i32 i))], [], (79, e, mm_R0, I, J1, A, B)) = some (.inl (some (.int (i32 (plV K R C lg m sw s n)))), (79, e, mm_R0, I, J', A, B)) ∧ ∀ j, j ≠ 23 → J' j = J j := by
    intro dd
    induction dd with
    | zero =>
      intro i J1 hi hJ
      refine ⟨J1, ?_, hJ⟩
      rw [sg_X10_plays_60, if_neg (by rw [i32_lt (by omega) (by omega)]; omega), show i = n by omega]
    | succ dd ih =>
      intro i J1 hi hJ
      have h' : CG K R C lg m sw I J1 A B := h.fr (h.j23 I J A B hJ).2 (h.j23 I J A B hJ).1
      obtain ⟨J2, a1, a2⟩ := sp_playedOutFrom e I J1 A B h' (s := s + i) (by omega)
      obtain ⟨J3, b1, b2⟩ := ih (i + 1) J2 (by omega) (fun j hj' => by rw [a2 j hj', hJ j hj'])
      refine ⟨J3, ?_, b2⟩
      have un : plV K R C lg m sw s (i + 1) = plV K R C lg m sw s i + (jnB K R C 0 (poV K R C lg m sw (s + i))).toNat := rfl
      have hb2 : CB K R C I J2 A B := h'.1.fr rfl (a2 1 (by decide)) rfl rfl rfl rfl rfl
      rw [← b1, un, sg_X10_plays_60, if_pos (by rw [i32_lt (by omega) (by omega)]; omega), i32_add, a1, mm_aft_v, sg_X10_plays_79]
      simp only [i32_l]
      rw [sp0_hasJoined e I J2 A B hb2 (by decide), mm_aft_v, sg_X10_plays_82]
      cases q : jnB K R C 0 (poV K R C lg m sw (s + i)) with
      | false =>
        rw [if_pos (show bi false = 0 from rfl), sg_X10_plays_88]
        simp only [i32_l]
        rw [i32_add]
        rfl
      | true =>
        rw [if_neg (show ¬ bi true = 0 by decide), sg_X10_plays_88]
        simp only [i32_l]
        rw [i32_add, i32_add]
        rfl
  obtain ⟨J', a1, a2⟩ := L n 0 J (by omega) (fun _ _ => rfl)
  refine ⟨J', ?_, h.j23 I J A B a2⟩
  rw [plays_start e I J A B hs h1 h2, h.2.2.2.2.1, if_pos (show jnd K R C (sN lg m sw 0) (sN lg m sw 1) = (-1 : Int32) from hj)]
  exact a1
end
section
variable {K R C : Nat} {lg : Nat → Nat} {m : Nat} {sw : Bool} (k : Nat) (r : Nat → Nat → Value) (e : Nat) (I : Nat → Nat → Int32) (J : Nat → Nat → Int64) (A : Nat → Nat → Int32) (B : Nat → Nat → Int64)
theorem FM.j {J' : Nat → Nat → Int64} (x : Int32) (hj : ∀ j, j ≠ 39 → J' j = J j) : FM I (mm_up I 39 39 x) J J' A A B B := ⟨fun i h => mm_up_row _ _ _ _ _ h, fun p _ h => mm_up_ne2 _ _ _ _ _ _ h, hj, fun _ _ _ _ _ _ => rfl, fun _ _ => rfl⟩
theorem pl_rg {s n : Nat} (hs : s ≤ 1000000) (h1 : 1 ≤ n) (h2 : n ≤ 50) : (rgP (i32 s) 0 1000000 && rgP (i32 n) 1 50) = true := by
  show (rgP (i32 s) (i32 0) (i32 1000000) && rgP (i32 n) (i32 1) (i32 50)) = true
  rw [rg_ok (by decide) (by decide) (by omega), decide_eq_true (Nat.zero_le _), decide_eq_true hs, rg_ok (by decide) (by decide) (by omega), decide_eq_true h1, decide_eq_true h2]; rfl
end
