/-! the law's loop -/
theorem cell_any (Ln : Nat) (xs : Nat → Int32) (hL : Ln ≤ 260) (S : mm_S) {k : Nat} (hk : k < 2147483648) : ∃ v, f_L_cell Ln xs [.ref 2000, .int (i32 k)] S = some (.inl (some (.int v)), S) := by
  rw [en_L_cell, sg_L_cell_0]
  by_cases q : i32 k < Int32.ofNat Ln
  · have kl : k < Ln := (i32_lt (a := k) (b := Ln) hk (by omega)).1 q
    rw [if_pos q, if_pos (by rw [i32_toInt hk]; omega), sg_L_cell_19]
    exact ⟨_, rfl⟩
  · rw [if_neg q, sg_L_cell_19]
    exact ⟨_, rfl⟩
theorem law_fin (Ln : Nat) (xs : Nat → Int32) {k c : Nat} (x6 x7 x8 : Int32) (e : Nat) (I : Nat → Nat → Int32) (J : Nat → Nat → Int64) (A : Nat → Nat → Int32) (B : Nat → Nat → Int64) (hx : RX c I J A B) : ∃ e', mm_run (pc_law Ln xs) (205, [some (.ref 2000), some (.ref 0), some (.ref 39), some (.ref 78), some (.int (1 : Int32)), some (.int (i32 k)), some (.int x6), some (.int x7), some (.int x8)], [.int (1 : Int32)], (79, e, mm_R0, I, J, A, B)) = mm_run (pc_law Ln xs) (35, [some (.ref 2000), some (.ref 0), some (.ref 39), some (.ref 78), some (.int (1 : Int32)), some (.int (i32 (k + 1))), some (.int x6), some (.int x7), some (.int x8)], [], (79, e', mm_R0, I, J, A, B)) ∧ e' ≤ e + 32 := by
  obtain ⟨K, R, C, lg, m, sw, ea, tk, se, pe, us, lo, rc, t, tp, pn, ln, tx, n, ra, pl, wo, ls, h⟩ := hx
  obtain ⟨e1, p1, p2⟩ := lw_refused e I J A B h.1 h.2.2.2 h.2.2.1
  have q1 := lw_all e I J A B h.1 h.2.2.2 h.2.2.1
  have q2 := lw_all2 e I J A B h.2.1 h.2.2.2 h.2.2.1
  have s250 : ∀ e : Nat, mm_run (pc_law Ln xs) (250, [some (.ref 2000), some (.ref 0), some (.ref 39), some (.ref 78), some (.int (1 : Int32)), some (.int (i32 k)), some (.int x6), some (.int x7), some (.int x8)], [], (79, e, mm_R0, I, J, A, B)) = mm_run (pc_law Ln xs) (35, [some (.ref 2000), some (.ref 0), some (.ref 39), some (.ref 78), some (.int (1 : Int32)), some (.int (i32 (k + 1))), some (.int x6), some (.int x7), some (.int x8)], [], (79, e, mm_R0, I, J, A, B)) := by
    intro e
    rw [sg_L_law_250, sg_L_law_255, show i32 k + (1 : Int32) = i32 (k + 1) from i32_add k 1]
  have s234 : ∃ e', mm_run (pc_law Ln xs) (234, [some (.ref 2000), some (.ref 0), some (.ref 39), some (.ref 78), some (.int (1 : Int32)), some (.int (i32 k)), some (.int x6), some (.int x7), some (.int x8)], [], (79, e, mm_R0, I, J, A, B)) = mm_run (pc_law Ln xs) (35, [some (.ref 2000), some (.ref 0), some (.ref 39), some (.ref 78), some (.int (1 : Int32)), some (.int (i32 (k + 1))), some (.int x6), some (.int x7), some (.int x8)], [], (79, e', mm_R0, I, J, A, B)) ∧ e' ≤ e + 32 := by
    by_cases q : 0 < (i32 k - i32 k / (35 : Int32) * (35 : Int32))
    · refine ⟨e, ?_, by omega⟩
      rw [sg_L_law_234, if_pos q]
      exact s250 e
    · refine ⟨e1, ?_, p2⟩
      rw [sg_L_law_234, if_neg q, p1, mm_aft_v, sg_L_law_247, if_neg (show ¬ (1 : Int32) = 0 by decide)]
      exact s250 e1
  obtain ⟨e', z1, z2⟩ := s234
  refine ⟨e', ?_, z2⟩
  by_cases q : 0 < (i32 k - i32 k / (14 : Int32) * (14 : Int32))
  · rw [sg_L_law_205, if_neg (show ¬ (1 : Int32) = 0 by decide), if_pos q]
    exact z1
  · rw [sg_L_law_205, if_neg (show ¬ (1 : Int32) = 0 by decide), if_neg q, q1, mm_aft_v, sg_L_law_225, q2, mm_aft_v, sg_L_law_230, if_pos rfl]
    exact z1
theorem law_step (Ln : Nat) (xs : Nat → Int32) (hL : Ln ≤ 260) {k c : Nat} (hk : k < 70) (hc : c + 1 ≤ 10000) (e : Nat) (I : Nat → Nat → Int32) (J : Nat → Nat → Int64) (A : Nat → Nat → Int32) (B : Nat → Nat → Int64) (hx : RX c I J A B) (o6 o7 o8 : Option Value) : ∃ e' I' J' A' B' x6 x7 x8, mm_run (pc_law Ln xs) (35, [some (.ref 2000), some (.ref 0), some (.ref 39), some (.ref 78), some (.int (1 : Int32)), some (.int (i32 k)), o6, o7, o8], [], (79, e, mm_R0, I, J, A, B)) = mm_run (pc_law Ln xs) (35, [some (.ref 2000), some (.ref 0), some (.ref 39), some (.ref 78), some (.int (1 : Int32)), some (.int (i32 (k + 1))), some (.int x6), some (.int x7), some (.int x8)], [], (79, e', mm_R0, I', J', A', B')) ∧ RX (c + 1) I' J' A' B' ∧ e' ≤ e + 270 := by
  have fin := fun (x6 x7 x8 : Int32) (e : Nat) (I : Nat → Nat → Int32) (J : Nat → Nat → Int64) (A : Nat → Nat → Int32) (B : Nat → Nat → Int64) (hx : RX (c + 1) I J A B) => law_fin Ln xs (k := k) x6 x7 x8 e I J A B hx
  obtain ⟨K, R, C, lg, m, sw, ea, tk, se, pe, us, lo, rc, t, tp, pn, ln, tx, n, ra, pl, wo, ls, h⟩ := hx
  obtain ⟨a, ha⟩ := cell_any Ln xs hL (79, e, mm_R0, I, J, A, B) (k := 2 * k) (by omega)
  obtain ⟨b, hb⟩ := cell_any Ln xs hL (79, e, mm_R0, I, J, A, B) (k := 2 * k + 1) (by omega)
  obtain ⟨r, r1, r2⟩ := lw_some (79, e, mm_R0, I, J, A, B) a (k := 24) (by decide) (by decide)
  have r2' : f_L_some [.int a, .int (24 : Int32)] (79, e, mm_R0, I, J, A, B) = some (.inl (some (.int (i32 r))), (79, e, mm_R0, I, J, A, B)) := r2
  have m1 : (2 : Int32) * i32 k = i32 (2 * k) := i32_mul 2 k
  have m2 : i32 (2 * k) + (1 : Int32) = i32 (2 * k + 1) := i32_add (2 * k) 1
  have st : mm_run (pc_law Ln xs) (35, [some (.ref 2000), some (.ref 0), some (.ref 39), some (.ref 78), some (.int (1 : Int32)), some (.int (i32 k)), o6, o7, o8], [], (79, e, mm_R0, I, J, A, B)) = mm_run (pc_law Ln xs) (76, [some (.ref 2000), some (.ref 0), some (.ref 39), some (.ref 78), some (.int (1 : Int32)), some (.int (i32 k)), some (.int a), some (.int b), o8], [.int (i32 r)], (79, e, mm_R0, I, J, A, B)) := by
    rw [sg_L_law_35, if_pos (show i32 k < (70 : Int32) by rw [show (70 : Int32) = i32 70 from rfl, i32_lt (by omega) (by decide)]; omega), if_neg (show ¬ (1 : Int32) = 0 by decide), m1, ha, mm_aft_v, sg_L_law_55, m1, m2, hb, mm_aft_v, sg_L_law_67, r2', mm_aft_v]
  have lt : ∀ j : Nat, j < 100 → (i32 r < i32 j ↔ r < j) := fun j hj => i32_lt (by omega) (by omega)
  by_cases q3 : (i32 k - i32 k / (20 : Int32) * (20 : Int32)) = (3 : Int32)
  · skip
    obtain ⟨e1, I1, J1, A1, B1, r1, r2, r3⟩ := lw_begins e I J A B h b
    have r2' : RX (c + 1) I1 J1 A1 B1 := RX.up I1 J1 A1 B1 r2 hc
    obtain ⟨e', f1, f2⟩ := fin a b (i32 r) e1 I1 J1 A1 B1 r2'
    refine ⟨e', I1, J1, A1, B1, a, b, i32 r, Eq.trans st ?_, r2', by omega⟩
    rw [sg_L_law_76, if_pos q3, r1, mm_aft_v, sg_L_law_95]
    exact f1
  · skip
    by_cases q12 : i32 r < (12 : Int32)
    · skip
      obtain ⟨e1, I1, J1, A1, B1, r1, r2, r3⟩ := lw_moves e I J A B h (a >>> ((5 : Int32) &&& 31)) b
      have r2' : RX (c + 1) I1 J1 A1 B1 := RX.up I1 J1 A1 B1 r2 hc
      obtain ⟨e', f1, f2⟩ := fin a b (i32 r) e1 I1 J1 A1 B1 r2'
      refine ⟨e', I1, J1, A1, B1, a, b, i32 r, Eq.trans st ?_, r2', by omega⟩
      rw [sg_L_law_76, if_neg q3, if_pos q12, r1, mm_aft_v, sg_L_law_117]
      exact f1
    · skip
      by_cases q14 : i32 r < (14 : Int32)
      · skip
        obtain ⟨e1, I1, J1, A1, B1, r1, r2, r3⟩ := lw_plays e I J A B h
        have r2' : RX (c + 1) I1 J1 A1 B1 := RX.up I1 J1 A1 B1 r2 hc
        obtain ⟨e', f1, f2⟩ := fin a b (i32 r) e1 I1 J1 A1 B1 r2'
        refine ⟨e', I1, J1, A1, B1, a, b, i32 r, Eq.trans st ?_, r2', by omega⟩
        rw [sg_L_law_76, if_neg q3, if_neg q12, if_pos q14, r1, mm_aft_v, sg_L_law_132]
        exact f1
      · skip
        by_cases q16 : i32 r < (16 : Int32)
        · skip
          obtain ⟨e1, I1, J1, A1, B1, r1, r2, r3⟩ := lw_links e I J A B h b
          have r2' : RX (c + 1) I1 J1 A1 B1 := RX.up I1 J1 A1 B1 r2 hc
          obtain ⟨e', f1, f2⟩ := fin a b (i32 r) e1 I1 J1 A1 B1 r2'
          refine ⟨e', I1, J1, A1, B1, a, b, i32 r, Eq.trans st ?_, r2', by omega⟩
          rw [sg_L_law_76, if_neg q3, if_neg q12, if_neg q14, if_pos q16, r1, mm_aft_v, sg_L_law_150]
          exact f1
        · skip
          by_cases q18 : i32 r < (18 : Int32)
          · skip
            obtain ⟨e1, I1, J1, A1, B1, r1, r2, r3⟩ := lw_seeds e I J A B h b
            have r2' : RX (c + 1) I1 J1 A1 B1 := RX.up I1 J1 A1 B1 r2 hc
            obtain ⟨e', f1, f2⟩ := fin a b (i32 r) e1 I1 J1 A1 B1 r2'
            refine ⟨e', I1, J1, A1, B1, a, b, i32 r, Eq.trans st ?_, r2', by omega⟩
            rw [sg_L_law_76, if_neg q3, if_neg q12, if_neg q14, if_neg q16, if_pos q18, r1, mm_aft_v, sg_L_law_168]
            exact f1
          · skip
            by_cases q21 : i32 r < (21 : Int32)
            · skip
              obtain ⟨e1, I1, J1, A1, B1, r1, r2, r3⟩ := lw_tapes e I J A B h (a >>> ((5 : Int32) &&& 31)) b
              have r2' : RX (c + 1) I1 J1 A1 B1 := RX.up I1 J1 A1 B1 r2 hc
              obtain ⟨e', f1, f2⟩ := fin a b (i32 r) e1 I1 J1 A1 B1 r2'
              refine ⟨e', I1, J1, A1, B1, a, b, i32 r, Eq.trans st ?_, r2', by omega⟩
              rw [sg_L_law_76, if_neg q3, if_neg q12, if_neg q14, if_neg q16, if_neg q18, if_pos q21, r1, mm_aft_v, sg_L_law_190]
              exact f1
            · skip
              obtain ⟨e1, I1, J1, A1, B1, r1, r2, r3⟩ := lw_people e I J A B h hc (a >>> ((5 : Int32) &&& 31)) b
              have r2' : RX (c + 1) I1 J1 A1 B1 := r2
              obtain ⟨e', f1, f2⟩ := fin a b (i32 r) e1 I1 J1 A1 B1 r2'
              refine ⟨e', I1, J1, A1, B1, a, b, i32 r, Eq.trans st ?_, r2', by omega⟩
              rw [sg_L_law_76, if_neg q3, if_neg q12, if_neg q14, if_neg q16, if_neg q18, if_neg q21, r1, mm_aft_v]
              exact f1
theorem law_loop (Ln : Nat) (xs : Nat → Int32) (hL : Ln ≤ 260) : ∀ d k (e : Nat) (I : Nat → Nat → Int32) (J : Nat → Nat → Int64) (A : Nat → Nat → Int32) (B : Nat → Nat → Int64) (o6 o7 o8 : Option Value), k + d = 70 → RX k I J A B → ∃ e' I' J' A' B' o6' o7' o8', mm_run (pc_law Ln xs) (35, [some (.ref 2000), some (.ref 0), some (.ref 39), some (.ref 78), some (.int (1 : Int32)), some (.int (i32 k)), o6, o7, o8], [], (79, e, mm_R0, I, J, A, B)) = mm_run (pc_law Ln xs) (263, [some (.ref 2000), some (.ref 0), some (.ref 39), some (.ref 78), some (.int (1 : Int32)), some (.int (i32 70)), o6', o7', o8'], [], (79, e', mm_R0, I', J', A', B')) ∧ RX 70 I' J' A' B' ∧ e' ≤ e + 270 * d := by
  intro d
  induction d with
  | zero =>
    intro k e I J A B o6 o7 o8 hk h
    have e1 : k = 70 := by omega
    subst e1
    refine ⟨e, I, J, A, B, o6, o7, o8, ?_, h, by omega⟩
    rw [sg_L_law_35, if_neg (show ¬ i32 70 < (70 : Int32) by decide)]
  | succ d ih =>
    intro k e I J A B o6 o7 o8 hk h
    obtain ⟨e1, I1, J1, A1, B1, x6, x7, x8, r1, r2, r3⟩ := law_step Ln xs hL (k := k) (c := k) (by omega) (by omega) e I J A B h o6 o7 o8
    obtain ⟨e', I', J', A', B', o6', o7', o8', q1, q2, q3⟩ := ih (k + 1) e1 I1 J1 A1 B1 (some (.int x6)) (some (.int x7)) (some (.int x8)) (by omega) r2
    exact ⟨e', I', J', A', B', o6', o7', o8', Eq.trans r1 q1, q2, by omega⟩
theorem law_last (Ln : Nat) (xs : Nat → Int32) {c : Nat} (e : Nat) (I : Nat → Nat → Int32) (J : Nat → Nat → Int64) (A : Nat → Nat → Int32) (B : Nat → Nat → Int64) (hx : RX c I J A B) (o6 o7 o8 : Option Value) : mm_run (pc_law Ln xs) (263, [some (.ref 2000), some (.ref 0), some (.ref 39), some (.ref 78), some (.int (1 : Int32)), some (.int (i32 70)), o6, o7, o8], [], (79, e, mm_R0, I, J, A, B)) = some (.inl (some (.int 1)), (79, e, mm_R0, I, J, A, B)) := by
  obtain ⟨K, R, C, lg, m, sw, ea, tk, se, pe, us, lo, rc, t, tp, pn, ln, tx, n, ra, pl, wo, ls, h⟩ := hx
  have q1 := lw_all e I J A B h.1 h.2.2.2 h.2.2.1
  have q2 := lw_all2 e I J A B h.2.1 h.2.2.2 h.2.2.1
  rw [sg_L_law_263, if_neg (show ¬ (1 : Int32) = 0 by decide), q1, mm_aft_v, sg_L_law_273, q2, mm_aft_v, sg_L_law_278, if_pos rfl, sg_L_law_287, if_pos (Or.inr rfl)]
