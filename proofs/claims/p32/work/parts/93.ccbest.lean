/-! the game of the class in one word; how many cells are empty; calls of best play, class -/
abbrev sN (lg : Nat → Nat) (m : Nat) (sw : Bool) (p : Nat) : Int64 := stN lg (kf sw m) p m
abbrev CG (K R C : Nat) (lg : Nat → Nat) (m : Nat) (sw : Bool) (I : Nat → Nat → Int32) (J : Nat → Nat → Int64) (A : Nat → Nat → Int32) (B : Nat → Nat → Int64) : Prop := CB K R C I J A B ∧ PL lg m sw I A ∧ J 7 4 = sN lg m sw 0 ∧ J 7 5 = sN lg m sw 1 ∧ I 7 6 = jnd K R C (sN lg m sw 0) (sN lg m sw 1) ∧ BQ K R C I J A B ∧ (∀ a, a < 512 → A 18 a = i32 (ter a))
abbrev WG (K R C : Nat) (lg : Nat → Nat) (m : Nat) (sw : Bool) : Prop := bV K R C = true ∧ (∀ i, i < m → lg i < bN K R C) ∧ Dst lg (kf sw m) m ∧ (sw = true → 2 ≤ m)
/-- what a question leaves as it was in the class -/
abbrev FC (I I' : Nat → Nat → Int32) (J J' : Nat → Nat → Int64) (A A' : Nat → Nat → Int32) (B B' : Nat → Nat → Int64) : Prop := (∀ i, i ≠ 9 → i ≠ 10 → i ≠ 15 → i ≠ 16 → I' i = I i) ∧ (∀ i, i ≠ 9 → i ≠ 15 → i ≠ 23 → J' i = J i) ∧ (∀ i, i ≠ 11 → i ≠ 13 → i ≠ 14 → i ≠ 17 → i ≠ 19 → i ≠ 20 → i ≠ 22 → A' i = A i) ∧ (∀ i, B' i = B i)
theorem FC.of2 {I I' : Nat → Nat → Int32} {J J' : Nat → Nat → Int64} {A A' : Nat → Nat → Int32} {B : Nat → Nat → Int64} (h : F2 I I' J J' A A') : FC I I' J J' A A' B B := ⟨fun i a b _ _ => h.1 i a b, fun i a _ _ => h.2.1 i a, fun i a b c _ _ _ _ => h.2.2 i a b c, fun _ => rfl⟩
theorem FC.tr {I I' I'' : Nat → Nat → Int32} {J J' J'' : Nat → Nat → Int64} {A A' A'' : Nat → Nat → Int32} {B B' B'' : Nat → Nat → Int64} (h : FC I I' J J' A A' B B') (g : FC I' I'' J' J'' A' A'' B' B'') : FC I I'' J J'' A A'' B B'' := ⟨fun i a b c d => by rw [g.1 i a b c d, h.1 i a b c d], fun i a b c => by rw [g.2.1 i a b c, h.2.1 i a b c], fun i a b c d f g' h' => by rw [g.2.2.1 i a b c d f g' h', h.2.2.1 i a b c d f g' h'], fun i => by rw [g.2.2.2 i, h.2.2.2 i]⟩
theorem FC.rf (I : Nat → Nat → Int32) (J : Nat → Nat → Int64) (A : Nat → Nat → Int32) (B : Nat → Nat → Int64) : FC I I J J A A B B := ⟨fun _ _ _ _ _ => rfl, fun _ _ _ _ => rfl, fun _ _ _ _ _ _ _ _ => rfl, fun _ => rfl⟩
theorem CG.fr {K R C : Nat} {lg : Nat → Nat} {m : Nat} {sw : Bool} {I I' : Nat → Nat → Int32} {J J' : Nat → Nat → Int64} {A A' : Nat → Nat → Int32} {B B' : Nat → Nat → Int64} (h : CG K R C lg m sw I J A B) (f : FC I I' J J' A A' B B') (hq : BQ K R C I' J' A' B') : CG K R C lg m sw I' J' A' B' := by
  obtain ⟨h1, h2, h3, h4, h5, h6, h7⟩ := h
  obtain ⟨f1, f2, f3, f4⟩ := f
  have e7 : I' 7 = I 7 := f1 7 (by decide) (by decide) (by decide) (by decide)
  have j7 : J' 7 = J 7 := f2 7 (by decide) (by decide) (by decide)
  have a8 : A' 8 = A 8 := f3 8 (by decide) (by decide) (by decide) (by decide) (by decide) (by decide) (by decide)
  have a18 : A' 18 = A 18 := f3 18 (by decide) (by decide) (by decide) (by decide) (by decide) (by decide) (by decide)
  refine ⟨h1.fr (f1 1 (by decide) (by decide) (by decide) (by decide)) (f2 1 (by decide) (by decide) (by decide)) (f3 2 (by decide) (by decide) (by decide) (by decide) (by decide) (by decide) (by decide)) (f3 3 (by decide) (by decide) (by decide) (by decide) (by decide) (by decide) (by decide)) (f3 4 (by decide) (by decide) (by decide) (by decide) (by decide) (by decide) (by decide)) (f4 5) (f4 6), ?_, by rw [j7]; exact h3, by rw [j7]; exact h4, by rw [e7]; exact h5, hq, by rw [a18]; exact h7⟩
  rw [show PL lg m sw I' A' = (I' 7 2 = i32 m ∧ I' 7 3 = bi sw ∧ m ≤ 37 ∧ (∀ i, i < m → A' 8 i = i32 (lg i))) from rfl, e7, a8]
  exact h2
theorem WG.n36 {K R C : Nat} {lg : Nat → Nat} {m : Nat} {sw : Bool} (h : WG K R C lg m sw) : ∀ i, i < m → lg i < 36 := fun i hi => Nat.lt_of_lt_of_le (h.2.1 i hi) (bN_le h.1)
theorem mb_st01 {lg : Nat → Nat} {f n : Nat} (hl : ∀ i, i < n → lg i < 36) (c : Nat) : (mb (stN lg f 0 n) c || mb (stN lg f 1 n) c) = true ↔ ∃ i, i < n ∧ f ≤ i ∧ lg i = c := by
  have hl2 : ∀ i, i < n → lg i < 64 := fun i hi => by have := hl i hi; omega
  rw [Bool.or_eq_true, mb_stN lg f 0 c n hl2, mb_stN lg f 1 c n hl2]
  constructor
  · rintro (⟨i, a, b, _, d⟩ | ⟨i, a, b, _, d⟩)
    · exact ⟨i, a, b, d⟩
    · exact ⟨i, a, b, d⟩
  · rintro ⟨i, a, b, d⟩
    have : i % 2 = 0 ∨ i % 2 = 1 := by omega
    rcases this with q | q
    · exact Or.inl ⟨i, a, b, q, d⟩
    · exact Or.inr ⟨i, a, b, q, d⟩
theorem stN_cnt {lg : Nat → Nat} {f : Nat} : ∀ n, (∀ i, i < n → lg i < 36) → Dst lg f n → f ≤ n → cf (fun c => mb (stN lg f 0 n) c || mb (stN lg f 1 n) c) 36 = n - f := by
  intro n
  induction n with
  | zero =>
    intro hl _ hf
    rw [cf_zero 36 (fun c => bool_f (fun z => by
      obtain ⟨i, a, _⟩ := (mb_st01 hl c).1 z
      omega))]
    omega
  | succ n ih =>
    intro hl hd hf
    by_cases q : f ≤ n
    · have i := ih (fun i hi => hl i (by omega)) (fun i j a b c => hd i j a b (by omega)) q
      have hn := hl n (by omega)
      rw [cf_add (p := fun c => mb (stN lg f 0 n) c || mb (stN lg f 1 n) c) (q := fun c => mb (stN lg f 0 (n + 1)) c || mb (stN lg f 1 (n + 1)) c) hn (bool_f (fun z => by
        obtain ⟨j, a, b, d⟩ := (mb_st01 (fun i hi => hl i (by omega)) _).1 z
        exact hd j n b a (by omega) d)) ((mb_st01 hl _).2 ⟨n, by omega, q, rfl⟩) (fun c hc => by
        show (mb (stN lg f 0 n) c || mb (stN lg f 1 n) c) = (mb (stN lg f 0 (n + 1)) c || mb (stN lg f 1 (n + 1)) c)
        rw [Bool.eq_iff_iff, mb_st01 (fun i hi => hl i (by omega)) c, mb_st01 hl c]
        constructor
        · rintro ⟨j, a, b, d⟩; exact ⟨j, by omega, b, d⟩
        · rintro ⟨j, a, b, d⟩
          by_cases y : j = n
          · subst y; exact absurd d.symm hc
          · exact ⟨j, by omega, b, d⟩), i]
      omega
    · rw [cf_zero 36 (fun c => bool_f (fun z => by
        obtain ⟨i, a, b, _⟩ := (mb_st01 hl c).1 z
        omega))]
      omega
theorem cf_compl {p : Nat → Bool} : ∀ n, cf p n + cf (fun c => !p c) n = n := by
  intro n
  induction n with
  | zero => rfl
  | succ n ih =>
    cases h : p n with
    | true => rw [cf_s h, cf_s0 (p := fun c => !p c) (by rw [h]; rfl)]; omega
    | false => rw [cf_s0 h, cf_s (p := fun c => !p c) (by rw [h]; rfl)]; omega
/-- empty cells and kept moves together are all cells -/
theorem gn_cnt {K R C : Nat} {lg : Nat → Nat} {f n : Nat} (v : bV K R C = true) (hl : ∀ i, i < n → lg i < bN K R C) (hd : Dst lg f n) (hf : f ≤ n) : gn (emp (bN K R C) (stN lg f 0 n) (stN lg f 1 n)) + (n - f) = bN K R C := by
  have hN := bN_le v
  have hl2 : ∀ i, i < n → lg i < 36 := fun i hi => by have := hl i hi; omega
  rw [← stN_cnt n hl2 hd hf]
  have hE := emp_EH hN (stN lg f 0 n) (stN lg f 1 n)
  rw [show gn (emp (bN K R C) (stN lg f 0 n) (stN lg f 1 n)) = cf (mb (emp (bN K R C) (stN lg f 0 n) (stN lg f 1 n))) (bN K R C) from cf_stop (fun c hc => bool_f (fun z => by have := ((hE c).1 z).1; omega)) hN]
  rw [show cf (fun c => mb (stN lg f 0 n) c || mb (stN lg f 1 n) c) 36 = cf (fun c => mb (stN lg f 0 n) c || mb (stN lg f 1 n) c) (bN K R C) from cf_stop (fun c hc => bool_f (fun z => by
    obtain ⟨i, a, _, d⟩ := (mb_st01 hl2 c).1 z
    have := hl i a
    omega)) hN]
  rw [show cf (mb (emp (bN K R C) (stN lg f 0 n) (stN lg f 1 n))) (bN K R C) = cf (fun c => !(mb (stN lg f 0 n) c || mb (stN lg f 1 n) c)) (bN K R C) from cf_congr (fun c hc => by
    rw [Bool.eq_iff_iff, hE c]
    cases mb (stN lg f 0 n) c <;> cases mb (stN lg f 1 n) c <;> simp [hc])]
  rw [Nat.add_comm]
  exact cf_compl _
theorem mcnt_emp {N : Nat} (h : N ≤ 36) (s0 s1 : Int64) : mcnt (emp N s0 s1) = gn (emp N s0 s1) := by
  have hE := emp_EH h s0 s1
  rw [mcnt_cf]
  exact cf_stop (fun c hc => bool_f (fun z => by have := ((hE c).1 z).1; omega)) (by decide)
section
variable {K R C : Nat} {lg : Nat → Nat} {m : Nat} {sw : Bool} (e : Nat) (I : Nat → Nat → Int32) (J : Nat → Nat → Int64) (A : Nat → Nat → Int32) (B : Nat → Nat → Int64)
theorem sp0_empty (h : CG K R C lg m sw I J A B) : f_X6_empty [.ref 7] (79, e, mm_R0, I, J, A, B) = some (.inl (some (.long (emp (bN K R C) (sN lg m sw 0) (sN lg m sw 1)))), (79, e, mm_R0, I, J, A, B)) := by
  have := sp_empty 70 mm_R0 e I J A B
  rw [mm_RP_0, h.1.all, h.2.2.1, h.2.2.2.1] at this
  exact this
theorem sp0_mover (h : CG K R C lg m sw I J A B) : f_X6_mover [.ref 7] (79, e, mm_R0, I, J, A, B) = some (.inl (some (.int (i32 (m % 2)))), (79, e, mm_R0, I, J, A, B)) := by
  have := sp_mover 70 mm_R0 e I J A B h.2.1
  rw [mm_RP_0] at this
  exact this
theorem sp_needFewGaps (h : CG K R C lg m sw I J A B) : f_X10_needFewGaps [.ref 0] (79, e, mm_R0, I, J, A, B) = if gn (emp (bN K R C) (sN lg m sw 0) (sN lg m sw 1)) ≤ 9 then some (.inl none, (79, e, mm_R0, I, J, A, B)) else some (.inr 3, (79, e + 1, mm_R0, I, J, A, B)) := by
  have gl : gn (emp (bN K R C) (sN lg m sw 0) (sN lg m sw 1)) ≤ 36 := cf_le _ _
  rw [en_X10_needFewGaps, sg_X10_needFewGaps_0, sp0_empty e I J A B h, mm_aft_v, sg_X10_needFewGaps_7, sp_bitCount, mm_aft_v, sg_X10_needFewGaps_10, mcnt_emp (bN_le h.1.v)]
  by_cases q : gn (emp (bN K R C) (sN lg m sw 0) (sN lg m sw 1)) ≤ 9
  · rw [if_neg (by rw [show (9 : Int32) = i32 9 from rfl, i32_lt (by decide) (by omega)]; omega), if_pos q]
  · rw [if_pos (by rw [show (9 : Int32) = i32 9 from rfl, i32_lt (by decide) (by omega)]; omega), if_neg q]
theorem cC_best (h : CG K R C lg m sw I J A B) (hg : gn (emp (bN K R C) (sN lg m sw 0) (sN lg m sw 1)) ≤ 9) : ∃ I' J' A', f_X10_best [.ref 0] (79, e, mm_R0, I, J, A, B) = some (.inl (some (.int (i32 (bestV K R C (sN lg m sw 0) (sN lg m sw 1) (m % 2))))), (79, e, mm_R0, I', J', A', B)) ∧ BQ K R C I' J' A' B ∧ FC I I' J J' A A' B B := by
  obtain ⟨I', J', A', a1, a2, a3⟩ := sp_winnerOf e B I J A h.1 h.2.2.2.2.2.1 (sN lg m sw 0) (sN lg m sw 1) (show m % 2 < 2 by omega) hg
  refine ⟨I', J', A', ?_, a2, FC.of2 a3⟩
  rw [en_X10_best, sg_X10_best_0, sp_needFewGaps e I J A B h, if_pos hg, mm_aft_n, sg_X10_best_4, sp0_mover e I J A B h, mm_aft_v, sg_X10_best_29, h.2.2.1, h.2.2.2.1, a1, mm_aft_v, sg_X10_best_32]
theorem cC_best_no (h : CG K R C lg m sw I J A B) (hg : ¬ gn (emp (bN K R C) (sN lg m sw 0) (sN lg m sw 1)) ≤ 9) : f_X10_best [.ref 0] (79, e, mm_R0, I, J, A, B) = some (.inr 3, (79, e + 1, mm_R0, I, J, A, B)) := by
  rw [en_X10_best, sg_X10_best_0, sp_needFewGaps e I J A B h, if_neg hg, mm_aft_x]
theorem cC_wins (h : CG K R C lg m sw I J A B) (hg : gn (emp (bN K R C) (sN lg m sw 0) (sN lg m sw 1)) ≤ 9) : ∃ I' J' A', f_X10_wins [.ref 0] (79, e, mm_R0, I, J, A, B) = some (.inl (some (.long (winV K R C (sN lg m sw 0) (sN lg m sw 1) (m % 2)))), (79, e, mm_R0, I', J', A', B)) ∧ BQ K R C I' J' A' B ∧ FC I I' J J' A A' B B := by
  obtain ⟨I', J', A', a1, a2, a3⟩ := sp_winsOf e B I J A h.1 h.2.2.2.2.2.1 (sN lg m sw 0) (sN lg m sw 1) (show m % 2 < 2 by omega) hg
  refine ⟨I', J', A', ?_, a2, FC.of2 a3⟩
  rw [en_X10_wins, sg_X10_wins_0, sp_needFewGaps e I J A B h, if_pos hg, mm_aft_n, sg_X10_wins_4, sp0_mover e I J A B h, mm_aft_v, sg_X10_wins_29, h.2.2.1, h.2.2.2.1, a1, mm_aft_v, sg_X10_wins_32]
theorem cC_wins_no (h : CG K R C lg m sw I J A B) (hg : ¬ gn (emp (bN K R C) (sN lg m sw 0) (sN lg m sw 1)) ≤ 9) : f_X10_wins [.ref 0] (79, e, mm_R0, I, J, A, B) = some (.inr 3, (79, e + 1, mm_R0, I, J, A, B)) := by
  rw [en_X10_wins, sg_X10_wins_0, sp_needFewGaps e I J A B h, if_neg hg, mm_aft_x]
theorem cC_lasts (h : CG K R C lg m sw I J A B) (hg : gn (emp (bN K R C) (sN lg m sw 0) (sN lg m sw 1)) ≤ 9) : ∃ I' J' A', f_X10_lasts [.ref 0] (79, e, mm_R0, I, J, A, B) = some (.inl (some (.int (si (lastV K R C (sN lg m sw 0) (sN lg m sw 1) (m % 2))))), (79, e, mm_R0, I', J', A', B)) ∧ BQ K R C I' J' A' B ∧ FC I I' J J' A A' B B := by
  obtain ⟨I', J', A', a1, a2, a3⟩ := sp_lengthOf e B I J A h.1 h.2.2.2.2.2.1 (sN lg m sw 0) (sN lg m sw 1) (show m % 2 < 2 by omega) hg
  refine ⟨I', J', A', ?_, a2, FC.of2 a3⟩
  rw [en_X10_lasts, sg_X10_lasts_0, sp_needFewGaps e I J A B h, if_pos hg, mm_aft_n, sg_X10_lasts_4, sp0_mover e I J A B h, mm_aft_v, sg_X10_lasts_29, h.2.2.1, h.2.2.2.1, a1, mm_aft_v, sg_X10_lasts_32]
theorem cC_lasts_no (h : CG K R C lg m sw I J A B) (hg : ¬ gn (emp (bN K R C) (sN lg m sw 0) (sN lg m sw 1)) ≤ 9) : f_X10_lasts [.ref 0] (79, e, mm_R0, I, J, A, B) = some (.inr 3, (79, e + 1, mm_R0, I, J, A, B)) := by
  rw [en_X10_lasts, sg_X10_lasts_0, sp_needFewGaps e I J A B h, if_neg hg, mm_aft_x]
theorem cC_dead (h : CG K R C lg m sw I J A B) (hg : gn (emp (bN K R C) (sN lg m sw 0) (sN lg m sw 1)) ≤ 9) : ∃ I' J' A', f_X10_dead [.ref 0] (79, e, mm_R0, I, J, A, B) = some (.inl (some (.long (deadV K R C (sN lg m sw 0) (sN lg m sw 1)))), (79, e, mm_R0, I', J', A', B)) ∧ BQ K R C I' J' A' B ∧ FC I I' J J' A A' B B := by
  obtain ⟨I', J', A', a1, a2, a3⟩ := sp_deadOf e B I J A h.1 h.2.2.2.2.2.1 (sN lg m sw 0) (sN lg m sw 1) (show m % 2 < 2 by omega) hg
  refine ⟨I', J', A', ?_, a2, FC.of2 a3⟩
  rw [en_X10_dead, sg_X10_dead_0, sp_needFewGaps e I J A B h, if_pos hg, mm_aft_n, sg_X10_dead_4, sp0_mover e I J A B h, mm_aft_v, sg_X10_dead_29, h.2.2.1, h.2.2.2.1, a1, mm_aft_v, sg_X10_dead_32]
theorem cC_dead_no (h : CG K R C lg m sw I J A B) (hg : ¬ gn (emp (bN K R C) (sN lg m sw 0) (sN lg m sw 1)) ≤ 9) : f_X10_dead [.ref 0] (79, e, mm_R0, I, J, A, B) = some (.inr 3, (79, e + 1, mm_R0, I, J, A, B)) := by
  rw [en_X10_dead, sg_X10_dead_0, sp_needFewGaps e I J A B h, if_neg hg, mm_aft_x]
end
