/-! calls of best play, reference; gaveAway -/
abbrev MG (K R C : Nat) (lg : Nat → Nat) (m : Nat) (sw : Bool) (I : Nat → Nat → Int32) (A : Nat → Nat → Int32) (B : Nat → Nat → Int64) : Prop := MB K R C I A B ∧ RLg lg m sw I A ∧ B 45 0 = sN lg m sw 0 ∧ B 45 1 = sN lg m sw 1 ∧ (∀ j, j < 10 → A 51 j = i32 (3 ^ j))
/-- what a question leaves as it was in the reference -/
abbrev FM (I I' : Nat → Nat → Int32) (J J' : Nat → Nat → Int64) (A A' : Nat → Nat → Int32) (B B' : Nat → Nat → Int64) : Prop := (∀ i, i ≠ 39 → I' i = I i) ∧ (∀ p, p ≠ 21 → p ≠ 39 → I' 39 p = I 39 p) ∧ (∀ i, i ≠ 39 → J' i = J i) ∧ (∀ i, i ≠ 50 → i ≠ 52 → i ≠ 53 → i ≠ 62 → i ≠ 63 → A' i = A i) ∧ (∀ i, i ≠ 54 → B' i = B i)
theorem FM.rf (I : Nat → Nat → Int32) (J : Nat → Nat → Int64) (A : Nat → Nat → Int32) (B : Nat → Nat → Int64) : FM I I J J A A B B := ⟨fun _ _ => rfl, fun _ _ _ => rfl, fun _ _ => rfl, fun _ _ _ _ _ _ => rfl, fun _ _ => rfl⟩
theorem FM.th (I : Nat → Nat → Int32) (J : Nat → Nat → Int64) (A : Nat → Nat → Int32) (B : Nat → Nat → Int64) (x : Int32) : FM I (mm_up I 39 39 x) J J A A B B := ⟨fun i h => mm_up_row _ _ _ _ _ h, fun p _ h => mm_up_ne2 _ _ _ _ _ _ h, fun _ _ => rfl, fun _ _ _ _ _ _ => rfl, fun _ _ => rfl⟩
theorem FM.tr {I I' I'' : Nat → Nat → Int32} {J J' J'' : Nat → Nat → Int64} {A A' A'' : Nat → Nat → Int32} {B B' B'' : Nat → Nat → Int64} (h : FM I I' J J' A A' B B') (g : FM I' I'' J' J'' A' A'' B' B'') : FM I I'' J J'' A A'' B B'' := ⟨fun i a => by rw [g.1 i a, h.1 i a], fun p a b => by rw [g.2.1 p a b, h.2.1 p a b], fun i a => by rw [g.2.2.1 i a, h.2.2.1 i a], fun i a b c d f => by rw [g.2.2.2.1 i a b c d f, h.2.2.2.1 i a b c d f], fun i a => by rw [g.2.2.2.2 i a, h.2.2.2.2 i a]⟩
theorem MG.fr {K R C : Nat} {lg : Nat → Nat} {m : Nat} {sw : Bool} {I I' : Nat → Nat → Int32} {J J' : Nat → Nat → Int64} {A A' : Nat → Nat → Int32} {B B' : Nat → Nat → Int64} (h : MG K R C lg m sw I A B) (f : FM I I' J J' A A' B B') : MG K R C lg m sw I' A' B' := by
  obtain ⟨h1, h2, h3, h4, h5⟩ := h
  obtain ⟨f1, f2, f3, f4, f5⟩ := f
  have a : ∀ i, i < 50 → A' i = A i := fun i hi => f4 i (by omega) (by omega) (by omega) (by omega) (by omega)
  have a51 : A' 51 = A 51 := f4 51 (by decide) (by decide) (by decide) (by decide) (by decide)
  refine ⟨h1.fr (fun p hp => f2 p (by omega) (by omega)) (a 40 (by decide)) (a 41 (by decide)) (a 42 (by decide)) (f5 43 (by decide)) (f5 44 (by decide)), ⟨by rw [f2 10 (by decide) (by decide)]; exact h2.1, by rw [f2 12 (by decide) (by decide)]; exact h2.2.1, h2.2.2.1, by rw [a 46 (by decide)]; exact h2.2.2.2⟩, by rw [f5 45 (by decide)]; exact h3, by rw [f5 45 (by decide)]; exact h4, by rw [a51]; exact h5⟩
theorem mcf_emp {N : Nat} (_ : N ≤ 36) (s0 s1 : Int64) : cf (mb (emp N s0 s1)) 36 = gn (emp N s0 s1) := rfl
section
variable {K R C : Nat} {lg : Nat → Nat} {m : Nat} {sw : Bool} (k : Nat) (r : Nat → Nat → Value) (e : Nat) (I : Nat → Nat → Int32) (J : Nat → Nat → Int64) (A : Nat → Nat → Int32) (B : Nat → Nat → Int64)
theorem sp_MemptyG (h : MG K R C lg m sw I A B) : f_X11_emptyCells [.ref 39] (k + 64, e, (mm_RM r), I, J, A, B) = some (.inl (some (.long (emp (bN K R C) (sN lg m sw 0) (sN lg m sw 1)))), (k + 64, e, (mm_RM r), I, J, A, B)) := by
  rw [sp_Mempty k r e I J A B h.1.cells, emp_M (bN_le h.1.v), h.2.2.1, h.2.2.2.1]
theorem sp_MasksFew (h : MG K R C lg m sw I A B) : f_X11_asksFew [.ref 39] (k + 64, e, (mm_RM r), I, J, A, B) = some (.inl (some (.int (bi (decide (gn (emp (bN K R C) (sN lg m sw 0) (sN lg m sw 1)) ≤ 9))))), (k + 64, e, (mm_RM r), mm_up I 39 39 (bi (!decide (gn (emp (bN K R C) (sN lg m sw 0) (sN lg m sw 1)) ≤ 9))), J, A, B)) := by
  have gl : gn (emp (bN K R C) (sN lg m sw 0) (sN lg m sw 1)) ≤ 36 := cf_le _ _
  rw [en_X11_asksFew, sg_X11_asksFew_0, sp_MemptyG k r e I J A B h, mm_aft_v, sg_X11_asksFew_5, sp_Mones, mm_aft_v, sg_X11_asksFew_8, mcf_emp (bN_le h.1.v)]
  generalize gn (emp (bN K R C) (sN lg m sw 0) (sN lg m sw 1)) = g at gl ⊢
  by_cases q : g ≤ 9
  · rw [if_neg (by rw [show (9 : Int32) = i32 9 from rfl, i32_lt (by decide) (by omega)]; omega), sg_X11_asksFew_18, decide_eq_true q]
    show mm_aft _ 21 _ _ (f_X11_asks [.ref 39, .int (bi true)] _) = _
    rw [sp_Masks, mm_aft_v, sg_X11_asksFew_21, if_pos (bi_ok true)]
  · rw [if_pos (by rw [show (9 : Int32) = i32 9 from rfl, i32_lt (by decide) (by omega)]; omega), sg_X11_asksFew_18, decide_eq_false q]
    show mm_aft _ 21 _ _ (f_X11_asks [.ref 39, .int (bi false)] _) = _
    rw [sp_Masks, mm_aft_v, sg_X11_asksFew_21, if_pos (bi_ok false)]
theorem solves_fr {I1 : Nat → Nat → Int32} {A1 : Nat → Nat → Int32} {B1 : Nat → Nat → Int64} {x : Int32} (hI : I1 = mm_up I 39 21 x) (h4 : ∀ i, i ≠ 50 → i ≠ 52 → i ≠ 53 → A1 i = A i) (h5 : ∀ i, i ≠ 54 → B1 i = B i) : FM I I1 J J A A1 B B1 := by
  subst hI
  exact ⟨fun i h => mm_up_row _ _ _ _ _ h, fun p h _ => mm_up_ne2 _ _ _ _ _ _ h, fun _ _ => rfl, fun i a b c _ _ => h4 i a b c, h5⟩
theorem cM_best (h : MG K R C lg m sw I A B) (hg : gn (emp (bN K R C) (sN lg m sw 0) (sN lg m sw 1)) ≤ 9) : ∃ I' A' B', f_X11_best [.ref 39] (k + 64, e, (mm_RM r), I, J, A, B) = some (.inl (some (.int (i32 (bestV K R C (sN lg m sw 0) (sN lg m sw 1) (m % 2))))), (k + 64, e, (mm_RM r), I', J, A', B')) ∧ I' 39 39 = i32 0 ∧ FM I I' J J A A' B B' := by
  have h2 := h.fr (FM.th I J A B (i32 0))
  obtain ⟨A', B', s1, s2, s3, s4, s5⟩ := sp_Msolves k r e J (mm_up I 39 39 (i32 0)) A B h2.1 h2.2.2.2.2 (sN lg m sw 0) (sN lg m sw 1) (tu := m % 2) (by omega) hg
  refine ⟨mm_up (mm_up I 39 39 (i32 0)) 39 21 (i32 (gn (emp (bN K R C) (sN lg m sw 0) (sN lg m sw 1)))), A', B', ?_, ?_, (FM.th I J A B (i32 0)).tr (solves_fr (mm_up I 39 39 (i32 0)) J A B rfl s4 s5)⟩
  · rw [en_X11_best, sg_X11_best_0, sp_MasksFew k r e I J A B h, decide_eq_true hg, mm_aft_v, sg_X11_best_4, if_neg (by decide)]
    show mm_aft _ 26 _ _ (f_X11_turn [.ref 39] (_, _, _, mm_up I 39 39 (i32 0), _, _, _)) = _
    rw [sp_Mturn k r e _ J A B h2.2.1.1 h2.2.1.2.2.1, mm_aft_v, sg_X11_best_26]
    simp only [i32_l]
    rw [i32_ix (by decide), i32_ix (by decide), h2.2.2.1, h2.2.2.2.1, s1, mm_aft_n, sg_X11_best_29]
    have v0 := (s2 0 (Nat.pow_pos (by decide)) (by rw [tnF_0 (by omega)]; omega)).1
    rw [tnF_0 (by omega), zF_0 (by omega)] at v0
    simp only [i32_l]
    rw [i32_ix (by decide), v0, bestV_val (by omega)]
  · rw [mm_up_ne2 _ _ _ _ _ _ (by decide), mm_up_eq]
theorem cM_few_no (P : Nat → mm_I) (n : Nat) (L : mm_L) (rest : List Value) (h : MG K R C lg m sw I A B) (hg : ¬ gn (emp (bN K R C) (sN lg m sw 0) (sN lg m sw 1)) ≤ 9) : mm_aft P n L rest (f_X11_asksFew [.ref 39] (k + 64, e, (mm_RM r), I, J, A, B)) = mm_run P (n, L, .int (bi false) :: rest, (k + 64, e, (mm_RM r), mm_up I 39 39 (i32 1), J, A, B)) := by
  rw [sp_MasksFew k r e I J A B h, decide_eq_false hg, mm_aft_v]
  rfl
theorem cM_few (P : Nat → mm_I) (n : Nat) (L : mm_L) (rest : List Value) (h : MG K R C lg m sw I A B) (hg : gn (emp (bN K R C) (sN lg m sw 0) (sN lg m sw 1)) ≤ 9) : mm_aft P n L rest (f_X11_asksFew [.ref 39] (k + 64, e, (mm_RM r), I, J, A, B)) = mm_run P (n, L, .int (bi true) :: rest, (k + 64, e, (mm_RM r), mm_up I 39 39 (i32 0), J, A, B)) := by
  rw [sp_MasksFew k r e I J A B h, decide_eq_true hg, mm_aft_v]
  rfl
theorem cM_best_no (h : MG K R C lg m sw I A B) (hg : ¬ gn (emp (bN K R C) (sN lg m sw 0) (sN lg m sw 1)) ≤ 9) : f_X11_best [.ref 39] (k + 64, e, (mm_RM r), I, J, A, B) = some (.inl (some (.int (i32 0))), (k + 64, e, (mm_RM r), mm_up I 39 39 (i32 1), J, A, B)) := by
  rw [en_X11_best, sg_X11_best_0, cM_few_no k r e I J A B _ _ _ _ h hg, sg_X11_best_4, if_pos (show bi false = 0 from rfl)]
  rfl
theorem cM_lasts (h : MG K R C lg m sw I A B) (hg : gn (emp (bN K R C) (sN lg m sw 0) (sN lg m sw 1)) ≤ 9) : ∃ I' A' B', f_X11_lasts [.ref 39] (k + 64, e, (mm_RM r), I, J, A, B) = some (.inl (some (.int (si (lastV K R C (sN lg m sw 0) (sN lg m sw 1) (m % 2))))), (k + 64, e, (mm_RM r), I', J, A', B')) ∧ I' 39 39 = i32 0 ∧ FM I I' J J A A' B B' := by
  have h2 := h.fr (FM.th I J A B (i32 0))
  obtain ⟨A', B', s1, s2, s3, s4, s5⟩ := sp_Msolves k r e J (mm_up I 39 39 (i32 0)) A B h2.1 h2.2.2.2.2 (sN lg m sw 0) (sN lg m sw 1) (tu := m % 2) (by omega) hg
  refine ⟨mm_up (mm_up I 39 39 (i32 0)) 39 21 (i32 (gn (emp (bN K R C) (sN lg m sw 0) (sN lg m sw 1)))), A', B', ?_, ?_, (FM.th I J A B (i32 0)).tr (solves_fr (mm_up I 39 39 (i32 0)) J A B rfl s4 s5)⟩
  · rw [en_X11_lasts, sg_X11_lasts_0, cM_few k r e I J A B _ _ _ _ h hg, sg_X11_lasts_4, if_neg (by decide)]
    rw [sp_Mturn k r e _ J A B h2.2.1.1 h2.2.1.2.2.1, mm_aft_v, sg_X11_lasts_26]
    simp only [i32_l]
    rw [i32_ix (by decide), i32_ix (by decide), h2.2.2.1, h2.2.2.2.1, s1, mm_aft_n, sg_X11_lasts_29]
    have v0 := (s2 0 (Nat.pow_pos (by decide)) (by rw [tnF_0 (by omega)]; omega)).2
    rw [zF_0 (by omega)] at v0
    simp only [i32_l]
    rw [i32_ix (by decide), v0, lastV_las, si_i32]
  · rw [mm_up_ne2 _ _ _ _ _ _ (by decide), mm_up_eq]
theorem cM_lasts_no (h : MG K R C lg m sw I A B) (hg : ¬ gn (emp (bN K R C) (sN lg m sw 0) (sN lg m sw 1)) ≤ 9) : f_X11_lasts [.ref 39] (k + 64, e, (mm_RM r), I, J, A, B) = some (.inl (some (.int (i32 0))), (k + 64, e, (mm_RM r), mm_up I 39 39 (i32 1), J, A, B)) := by
  rw [en_X11_lasts, sg_X11_lasts_0, cM_few_no k r e I J A B _ _ _ _ h hg, sg_X11_lasts_4, if_pos (show bi false = 0 from rfl)]
  rfl
/-- a move from the root of the fillings -/
theorem zF_one {E s0 s1 : Int64} {tu j : Nat} (ht : tu < 2) (hj : j < gn E) : tnF (gn E) tu (3 ^ j * (tu + 1)) = 1 - tu ∧ 3 ^ j * (tu + 1) < 3 ^ gn E ∧ zF K R C E s0 s1 tu (3 ^ j * (tu + 1)) = Sc K R C (gn E - 1) (1 - tu) (pt tu 0 (gc E j) s0) (pt tu 1 (gc E j) s1) := by
  have t0 := tnF_0 (n := gn E) ht
  have a := tnF_put (n := gn E) ht (dg_0 j) hj (by rw [t0]; exact ht)
  have b := put_lt (n := gn E) (d := tu + 1) (dg_0 j) (by omega) hj (Nat.pow_pos (by decide))
  have s := dn3_sum 0 (gn E)
  rw [dn3_0 _ (d := 1) (by decide), dn3_0 _ (d := 2) (by decide)] at s
  have c := zF_put (K := K) (R := R) (C := C) (s0 := s0) (s1 := s1) (f' := gn E - 1) ht (dg_0 j) hj (by rw [t0]; exact ht) (by omega)
  rw [t0, fl_0 _ (by decide), fl_0 _ (by decide), or_zero64, or_zero64] at c
  rw [t0] at a
  rw [Nat.zero_add] at a b c
  exact ⟨a, b, c⟩
theorem cM_wins (h : MG K R C lg m sw I A B) (hg : gn (emp (bN K R C) (sN lg m sw 0) (sN lg m sw 1)) ≤ 9) : ∃ I' A' B', f_X11_wins [.ref 39] (k + 64, e, (mm_RM r), I, J, A, B) = some (.inl (some (.long (winV K R C (sN lg m sw 0) (sN lg m sw 1) (m % 2)))), (k + 64, e, (mm_RM r), I', J, A', B')) ∧ I' 39 39 = i32 0 ∧ FM I I' J J A A' B B' := by
  have h2 := h.fr (FM.th I J A B (i32 0))
  have st : f_X11_wins [.ref 39] (k + 64, e, (mm_RM r), I, J, A, B) = mm_run (mm_pr tb_X11_wins) (11, [some (.ref 39), none, none, none], [.int (jnd K R C (sN lg m sw 0) (sN lg m sw 1))], (k + 64, e, (mm_RM r), mm_up I 39 39 (i32 0), J, A, B)) := by
    rw [en_X11_wins, sg_X11_wins_0, cM_few k r e I J A B _ _ _ _ h hg, sg_X11_wins_4, if_neg (by decide), sp_MjoinedNow k r e _ J A B h2.1, mm_aft_v, h2.2.2.1, h2.2.2.2.1]
  rw [st, sg_X11_wins_11]
  unfold winV jnd
  cases j0 : jnB K R C 0 (sN lg m sw 0) with
  | true =>
    refine ⟨mm_up I 39 39 (i32 0), A, B, ?_, mm_up_eq _ _ _ _, FM.th I J A B (i32 0)⟩
    rw [if_neg (show ¬ (bif true then i32 0 else bif jnB K R C 1 (sN lg m sw 1) then i32 1 else iN) = -1 by show ¬ i32 0 = -1; decide), sg_X11_wins_15, if_pos rfl]
  | false =>
    cases j1 : jnB K R C 1 (sN lg m sw 1) with
    | true =>
      refine ⟨mm_up I 39 39 (i32 0), A, B, ?_, mm_up_eq _ _ _ _, FM.th I J A B (i32 0)⟩
      rw [if_neg (show ¬ (bif false then i32 0 else bif true then i32 1 else iN) = -1 by decide), sg_X11_wins_15, if_neg (by decide), if_pos rfl]
    | false =>
      obtain ⟨A', B', s1, s2, s3, s4, s5⟩ := sp_Msolves k r e J (mm_up I 39 39 (i32 0)) A B h2.1 h2.2.2.2.2 (sN lg m sw 0) (sN lg m sw 1) (tu := m % 2) (by omega) hg
      obtain ⟨I2, hI2⟩ : ∃ I2, I2 = mm_up (mm_up I 39 39 (i32 0)) 39 21 (i32 (gn (emp (bN K R C) (sN lg m sw 0) (sN lg m sw 1)))) := ⟨_, rfl⟩
      have fm2 : FM I I2 J J A A' B B' := (FM.th I J A B (i32 0)).tr (solves_fr _ J A B hI2 s4 s5)
      have h3 := h.fr fm2
      have h21 : I2 39 21 = i32 (gn (emp (bN K R C) (sN lg m sw 0) (sN lg m sw 1))) := by rw [hI2, mm_up_eq]
      refine ⟨I2, A', B', ?_, by rw [hI2, mm_up_ne2 _ _ _ _ _ _ (by decide), mm_up_eq], fm2⟩
      rw [if_pos (show (bif false then i32 0 else bif false then i32 1 else iN) = -1 from rfl), if_neg (by decide), if_neg (by decide)]
      rw [sp_Mturn k r e _ J A B h2.2.1.1 h2.2.1.2.2.1, mm_aft_v, sg_X11_wins_34]
      simp only [i32_l]
      rw [i32_ix (by decide), i32_ix (by decide), h2.2.2.1, h2.2.2.2.1, s1, mm_aft_n, ← hI2, sg_X11_wins_37]
      obtain ⟨E, hE⟩ : ∃ E, E = emp (bN K R C) (sN lg m sw 0) (sN lg m sw 1) := ⟨_, rfl⟩
      rw [← hE] at h21 s2 s3 hg ⊢
      have wl : ∀ j, j ≤ gn E → ∀ i, i ≤ gn E → spr E (winM K R C (sN lg m sw 0) (sN lg m sw 1) (m % 2) j) (gn E) = spr E (winM K R C (sN lg m sw 0) (sN lg m sw 1) (m % 2) j) (gn E) := fun _ _ _ _ => rfl
      have L : ∀ dd j, j + dd = gn E → mm_run (mm_pr tb_X11_wins) (41, [some (.ref 39), some (.long (spr E (winM K R C (sN lg m sw 0) (sN lg m sw 1) (m % 2) j) (gn E))), none, some (.int (i32 j))], [], (k + 64, e, (mm_RM r), I2, J, A', B')) = some (.inl (some (.long (spr E (winM K R C (sN lg m sw 0) (sN lg m sw 1) (m % 2) (gn E)) (gn E)))), (k + 64, e, (mm_RM r), I2, J, A', B')) := by
        intro dd
        induction dd with
        | zero =>
          intro j hj
          rw [sg_X11_wins_41, h21, if_neg (by rw [i32_lt (by omega) (by omega)]; omega), show j = gn E by omega]
        | succ dd ih =>
          intro j hj
          have hT := h3.2.2.2.2 j (by omega)
          obtain ⟨z1, z2, z3⟩ := zF_one (K := K) (R := R) (C := C) (E := E) (s0 := sN lg m sw 0) (s1 := sN lg m sw 1) (tu := m % 2) (j := j) (by omega) (by omega)
          have v := (s2 _ z2 (by rw [z1]; omega)).1
          rw [z1, z3] at v
          have mv : mvV K R C (sN lg m sw 0) (sN lg m sw 1) (m % 2) j = bk (Sc K R C (gn E - 1) (1 - m % 2) (pt (m % 2) 0 (gc E j) (sN lg m sw 0)) (pt (m % 2) 1 (gc E j) (sN lg m sw 1))) := by rw [hE]; rfl
          have p9 := p3le hg
          have ab := Sc_abs (K := K) (R := R) (C := C) (gn E - 1) (1 - m % 2) (pt (m % 2) 0 (gc E j) (sN lg m sw 0)) (pt (m % 2) 1 (gc E j) (sN lg m sw 1))
          have un : winM K R C (sN lg m sw 0) (sN lg m sw 1) (m % 2) (j + 1) = winM K R C (sN lg m sw 0) (sN lg m sw 1) (m % 2) j ||| (if 0 < mvV K R C (sN lg m sw 0) (sN lg m sw 1) (m % 2) j then 2 ^ j else 0) := rfl
          rw [← ih (j + 1) (by omega), un, sg_X11_wins_41, h21]
          generalize hX : 3 ^ j * (m % 2 + 1) = X at z1 z2 z3 v
          have p3 := pow3_lt (j := j) (by omega)
          simp (disch := omega) only [i32_l, iN_l, i32_add, i32_mul, i32_r0, i32_r1, run_bi, run_bi', i32_sub, decide_eq_true_eq, bi_rt, bi_em, bi_0, bi_1, i32_lt, i32_eq, iN_ne, iN_lt, iN_nlt, i32_ix, i32_in,  mm_aft_v, mm_aft_n, mm_aft_x, if_pos, if_neg, ite_true, ite_false, if_true, if_false, not_false_eq_true, not_true_eq_false, hT]
          rw [sp_Mturn k r e I2 J A' B' h3.2.1.1 h3.2.1.2.2.1, mm_aft_v, sg_X11_wins_64]
          simp (disch := omega) only [i32_l, iN_l, i32_add, i32_mul, i32_r0, i32_r1, run_bi, run_bi', i32_sub, decide_eq_true_eq, bi_rt, bi_em, bi_0, bi_1, i32_lt, i32_eq, iN_ne, iN_lt, iN_nlt, i32_ix, i32_in,  mm_aft_v, mm_aft_n, mm_aft_x, if_pos, if_neg, ite_true, ite_false, if_true, if_false, not_false_eq_true, not_true_eq_false, hX]
          rw [sp_Mturn k r e I2 J A' B' h3.2.1.1 h3.2.1.2.2.1, mm_aft_v, sg_X11_wins_72, v]
          generalize Sc K R C (gn E - 1) (1 - m % 2) (pt (m % 2) 0 (gc E j) (sN lg m sw 0)) (pt (m % 2) 1 (gc E j) (sN lg m sw 1)) = z at v mv ab ⊢
          rw [mv]
          by_cases q : 0 < z
          · have e1 : val (1 - m % 2) z = 1 - m % 2 := if_pos q
            have e2 : ¬ 0 < bk z := by unfold bk; rw [if_pos q]; omega
            rw [e1, if_neg (by rw [i32_eq (by omega) (by omega)]; omega), if_neg e2, Nat.or_zero, sg_X11_wins_88, or_zero64]
            simp only [i32_l, i32_add]
          · have e1 : val (1 - m % 2) z = m % 2 := by unfold val; rw [if_neg q]; omega
            have e2 : 0 < bk z := by unfold bk; rw [if_neg q]; omega
            rw [e1, if_pos rfl, if_pos e2, spr_or, spr_one (by omega)]
            simp (disch := omega) only [i32_l, iN_l, i32_add, i32_mul, i32_r0, i32_r1, run_bi, run_bi', i32_sub, decide_eq_true_eq, bi_rt, bi_em, bi_0, bi_1, i32_lt, i32_eq, iN_ne, iN_lt, iN_nlt, i32_ix, i32_in,  mm_aft_v, mm_aft_n, mm_aft_x, if_pos, if_neg, ite_true, ite_false, if_true, if_false, not_false_eq_true, not_true_eq_false, s3 j (by omega), sp_Mbit, sg_X11_wins_84, sg_X11_wins_88]
      have L0 := L (gn E) 0 (by omega)
      rw [show winM K R C (sN lg m sw 0) (sN lg m sw 1) (m % 2) 0 = 0 from rfl, spr_zero] at L0
      exact L0
theorem cM_wins_no (h : MG K R C lg m sw I A B) (hg : ¬ gn (emp (bN K R C) (sN lg m sw 0) (sN lg m sw 1)) ≤ 9) : f_X11_wins [.ref 39] (k + 64, e, (mm_RM r), I, J, A, B) = some (.inl (some (.long 0)), (k + 64, e, (mm_RM r), mm_up I 39 39 (i32 1), J, A, B)) := by
  rw [en_X11_wins, sg_X11_wins_0, cM_few_no k r e I J A B _ _ _ _ h hg, sg_X11_wins_4, if_pos (show bi false = 0 from rfl), sg_X11_wins_15]
end
