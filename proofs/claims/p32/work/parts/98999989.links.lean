/-! the law's links -/
theorem bSd_sub {K : Nat} (h : K < 3) : bSd K = 4 - K := by
  rcases (show K = 0 ∨ K = 1 ∨ K = 2 by omega) with q | q | q <;> subst q <;> rfl
theorem endP_ok {K R C x : Nat} (hN : bN K R C ≤ 36) (hS : bSd K ≤ 4) (h : okE K R C x) : endP (bN K R C) (bSd K) (i32 x) = true := by
  have lt : x < 104 := by rcases h with h | h <;> omega
  unfold endP
  rw [cellP_i hN (by omega), Bool.or_eq_true, Bool.and_eq_true, decide_eq_true_eq, decide_eq_true_eq, Bool.not_eq_true', decide_eq_false_iff_not, i32_lt (by omega) (by decide), i32_lt (by omega) (by omega)]
  rcases h with h | h
  · exact Or.inl h
  · exact Or.inr ⟨by omega, h.2⟩
section
variable {K R C : Nat} {lg : Nat → Nat} {m : Nat} {sw : Bool} {ea : Nat} {tk : Bool} {se pe us : Nat → Nat} {lo : Nat} {rc : Bool} {t : Nat} {tp : Nat → Nat} {pn : Nat} {ln : Nat → Nat} {tx : Nat → Nat → Nat} {n : Nat} {ra : Nat → Int} {pl wo ls : Nat → Nat} {c : Nat}
theorem car_hi {E own : Int64} {one oth a : Nat} (h : MinC (TT K R C E own one oth) (gn E) a) : ¬ spr E a (gn E) = (-1 : Int64) ∧ ¬ spr E a (gn E) = (-2000000002 : Int64) ∧ ¬ spr E a (gn E) = (-2000000003 : Int64) := by
  have g : ∀ y : Int64, mb y 63 = true → ¬ spr E a (gn E) = y := fun y hy z => by
    have := spr_lt36 (E := E) (c := a) (x := 63) (by rw [z]; exact hy)
    omega
  exact ⟨g _ (by decide), g _ (by decide), g _ (by decide)⟩
theorem bo_carrier (w : WG K R C lg m sw) {p c1 c2 : Nat} (hp : p < 2) (o1 : okE K R C c1) (o2 : okE K R C c2) : ((i32 c1 = i32 c2 ∨ isE (sN lg m sw p) (i32 c1) = false ∨ isE (sN lg m sw p) (i32 c2) = false) ∧ Cal f_L_set [.int (2 : Int32), .int (i32 p), .int (i32 c1), .int (i32 c2)] (some (.long (-2000000002 : Int64))) (fun I J A B => CSd K R C lg m sw ea tk se pe us lo rc t tp pn ln tx n ra pl wo ls I J A B) (fun I J A B => CSd K R C lg m sw ea tk se pe us lo rc t tp pn ln tx n ra pl wo ls I J A B)) ∨ (9 < gn (emp (bN K R C) (sN lg m sw 0) (sN lg m sw 1)) ∧ Cal f_L_set [.int (2 : Int32), .int (i32 p), .int (i32 c1), .int (i32 c2)] (some (.long (-2000000003 : Int64))) (fun I J A B => CSd K R C lg m sw ea tk se pe us lo rc t tp pn ln tx n ra pl wo ls I J A B) (fun I J A B => CSd K R C lg m sw ea tk se pe us lo rc t tp pn ln tx n ra pl wo ls I J A B)) ∨ (lkC K R C lg m sw true (i32 p) (i32 c1) (i32 c2) = 0 ∧ lkC K R C lg m sw true (i32 p) (i32 c2) (i32 c1) = 0 ∧ Cal f_L_set [.int (2 : Int32), .int (i32 p), .int (i32 c1), .int (i32 c2)] (some (.long (carV K R C (emp (bN K R C) (sN lg m sw 0) (sN lg m sw 1)) (sN lg m sw p) c1 c2))) (fun I J A B => CSd K R C lg m sw ea tk se pe us lo rc t tp pn ln tx n ra pl wo ls I J A B) (fun I J A B => CSd K R C lg m sw ea tk se pe us lo rc t tp pn ln tx n ra pl wo ls I J A B) ∧ Cal f_L_set [.int (2 : Int32), .int (i32 p), .int (i32 c2), .int (i32 c1)] (some (.long (carV K R C (emp (bN K R C) (sN lg m sw 0) (sN lg m sw 1)) (sN lg m sw p) c1 c2))) (fun I J A B => CSd K R C lg m sw ea tk se pe us lo rc t tp pn ln tx n ra pl wo ls I J A B) (fun I J A B => CSd K R C lg m sw ea tk se pe us lo rc t tp pn ln tx n ra pl wo ls I J A B)) := by
  have hk := bV_K w.1
  have hN := bN_le w.1
  have hS : bSd K ≤ 4 := bSd_le (K := K)
  have px : (i32 p).toInt.toNat = p := i32_ix (by omega)
  have e1 := endP_ok hN hS o1
  have e2 := endP_ok hN hS o2
  have n1 : ¬ (plaP (i32 p) && endP (bN K R C) (bSd K) (i32 c1) && endP (bN K R C) (bSd K) (i32 c2) && true) = false := by
    rw [plaP_i hp, e1, e2]; decide
  have n2 : ¬ (plaP (i32 p) && endP (bN K R C) (bSd K) (i32 c2) && endP (bN K R C) (bSd K) (i32 c1) && true) = false := by
    rw [plaP_i hp, e1, e2]; decide
  by_cases q : i32 c1 = i32 c2 ∨ isE (sN lg m sw p) (i32 c1) = false ∨ isE (sN lg m sw p) (i32 c2) = false
  · have l : lkC K R C lg m sw true (i32 p) (i32 c1) (i32 c2) = 2 := by
      unfold lkC
      rw [if_neg n1, px, if_pos q]
    refine Or.inl ⟨q, Cal.no (fun e I J A B cc => wx_carrier_2 e I J A B _ _ _ ?_)⟩
    have := cC_carrier_no e I J A B cc.1 (p := i32 p) (one := i32 c1) (oth := i32 c2) (by rw [l]; decide)
    rw [l] at this
    exact this
  · have q2 : ¬ (i32 c2 = i32 c1 ∨ isE (sN lg m sw p) (i32 c2) = false ∨ isE (sN lg m sw p) (i32 c1) = false) := by
      rintro (z | z | z)
      · exact q (Or.inl z.symm)
      · exact q (Or.inr (Or.inr z))
      · exact q (Or.inr (Or.inl z))
    by_cases g : gn (emp (bN K R C) (sN lg m sw 0) (sN lg m sw 1)) ≤ 9
    · have l : lkC K R C lg m sw true (i32 p) (i32 c1) (i32 c2) = 0 := by
        unfold lkC
        rw [if_neg n1, px, if_neg q, if_pos g]
      have l2 : lkC K R C lg m sw true (i32 p) (i32 c2) (i32 c1) = 0 := by
        unfold lkC
        rw [if_neg n2, px, if_neg q2, if_pos g]
      refine Or.inr (Or.inr ⟨l, l2, fun e I J A B cc => ?_, fun e I J A B cc => ?_⟩)
      · obtain ⟨e', I', J', A', B', r1, r2, r3, r4⟩ := cx_carrier hp o1 o2 l (fun v hv => car_of hv) e I J A B cc
        exact ⟨e', I', J', A', B', wl_carrier e I J A B _ _ _ r1, r2, r3, r4⟩
      · obtain ⟨e', I', J', A', B', r1, r2, r3, r4⟩ := cx_carrier hp o2 o1 l2 (v0 := carV K R C (emp (bN K R C) (sN lg m sw 0) (sN lg m sw 1)) (sN lg m sw p) c1 c2) (fun v hv => (car_of hv).trans (carV_sym w.1).symm) e I J A B cc
        exact ⟨e', I', J', A', B', wl_carrier e I J A B _ _ _ r1, r2, r3, r4⟩
    · have l : lkC K R C lg m sw true (i32 p) (i32 c1) (i32 c2) = 3 := by
        unfold lkC
        rw [if_neg n1, px, if_neg q, if_neg g]
      refine Or.inr (Or.inl ⟨by omega, Cal.no (fun e I J A B cc => wx_carrier_3 e I J A B _ _ _ ?_)⟩)
      have := cC_carrier_no e I J A B cc.1 (p := i32 p) (one := i32 c1) (oth := i32 c2) (by rw [l]; decide)
      rw [l] at this
      exact this
/-- all answers fit the carrier -/
theorem link_in (x3 : Int32) {p c1 c2 : Nat} (hp : p < 2) (o1 : okE K R C c1) (o2 : okE K R C c2) (l0 : lkC K R C lg m sw true (i32 p) (i32 c1) (i32 c2) = 0) : ∀ d k (e : Nat) (I : Nat → Nat → Int32) (J : Nat → Nat → Int64) (A : Nat → Nat → Int32) (B : Nat → Nat → Int64) (o11 o12 : Option Value), k + d = bN K R C → RWd K R C lg m sw ea tk se pe us lo rc t tp pn ln tx n ra pl wo ls c I J A B → ∃ e' I' J' A' B', mm_run (mm_pr tb_L_links) (249, [some (.ref 0), some (.ref 39), some (.ref 78), some (.int x3), some (.int (i32 p)), some (.int (i32 c1)), some (.int (i32 c2)), some (.long (carV K R C (emp (bN K R C) (sN lg m sw 0) (sN lg m sw 1)) (sN lg m sw p) c1 c2)), none, some (.int (1 : Int32)), some (.int (i32 k)), o11, o12], [], (79, e, mm_R0, I, J, A, B)) = some (.inl (some (.int 1)), (79, e', mm_R0, I', J', A', B')) ∧ RX c I' J' A' B' ∧ e' ≤ e := by
  intro d
  induction d with
  | zero =>
    intro k e I J A B o11 o12 hk h
    have w := h.2.2.2.1
    have bl := bN_le w.1
    have hN : A 78 ((0 : Int32)).toInt.toNat = i32 (bN K R C) := h.2.2.1.1
    refine ⟨e, I, J, A, B, ?_, RWd.rx _ _ _ _ h, Nat.le_refl _⟩
    rw [sg_L_links_249, hN, if_neg (by rw [i32_lt (by omega) (by omega)]; omega), sg_L_links_367, if_pos (Or.inr rfl)]
  | succ d ih =>
    intro k e I J A B o11 o12 hk h
    have w := h.2.2.2.1
    have bl := bN_le w.1
    have hN : A 78 ((0 : Int32)).toInt.toNat = i32 (bN K R C) := h.2.2.1.1
    obtain ⟨I1, J1, A1, x, a1, r1, q1, f1⟩ := cC_answer e I J A B h.1.1 hp o1 o2 (show k < bN K R C by omega) l0
    have h' : RWd K R C lg m sw ea tk se pe us lo rc t tp pn ln tx n ra pl wo ls c I1 J1 A1 B := h.one (h.1.fc f1 q1) f1.h39
    have fin : ∀ o11 o12, ∃ e' I' J' A' B', mm_run (mm_pr tb_L_links) (359, [some (.ref 0), some (.ref 39), some (.ref 78), some (.int x3), some (.int (i32 p)), some (.int (i32 c1)), some (.int (i32 c2)), some (.long (carV K R C (emp (bN K R C) (sN lg m sw 0) (sN lg m sw 1)) (sN lg m sw p) c1 c2)), none, some (.int (1 : Int32)), some (.int (i32 k)), some (.int o11), some (.int o12)], [.int (1 : Int32)], (79, e, mm_R0, I1, J1, A1, B)) = some (.inl (some (.int 1)), (79, e', mm_R0, I', J', A', B')) ∧ RX c I' J' A' B' ∧ e' ≤ e := by
      intro o11 o12
      obtain ⟨e', I', J', A', B', z1, z2, z3⟩ := ih (k + 1) e I1 J1 A1 B (some (.int o11)) (some (.int o12)) (by omega) h'
      refine ⟨e', I', J', A', B', ?_, z2, z3⟩
      rw [sg_L_links_359, show i32 k + (1 : Int32) = i32 (k + 1) from i32_add k 1]
      exact z1
    have hh := fun {j : Nat} (hj : j < 64) => lw_has (79, e, mm_R0, I1, J1, A1, B) (carV K R C (emp (bN K R C) (sN lg m sw 0) (sN lg m sw 1)) (sN lg m sw p) c1 c2) hj
    rw [sg_L_links_249, hN, if_pos (by rw [i32_lt (by omega) (by omega)]; omega), if_neg (show ¬ (1 : Int32) = 0 by decide), a1, mm_aft_v, sg_L_links_274]
    by_cases hm : ∃ a, MinC (TT K R C (emp (bN K R C) (sN lg m sw 0) (sN lg m sw 1)) (sN lg m sw p) c1 c2) (gn (emp (bN K R C) (sN lg m sw 0) (sN lg m sw 1))) a
    · obtain ⟨a, hm⟩ := hm
      have cv := carV_t hm
      rw [if_neg (by rw [cv]; exact (car_hi hm).1), hh (show k < 64 by omega), mm_aft_v, sg_L_links_292]
      cases q : mb (spr (emp (bN K R C) (sN lg m sw 0) (sN lg m sw 1)) a (gn (emp (bN K R C) (sN lg m sw 0) (sN lg m sw 1)))) k with
      | false =>
        have xe := anw_out hm q r1
        rw [cv, q, if_pos (show bi false = (0 : Int32) from rfl), sg_L_links_299, sg_L_links_300, if_pos rfl, if_pos (show x = (-1 : Int32) from xe), ← cv]
        exact fin _ _
      | true =>
        obtain ⟨j, xe, j1, j2, j3⟩ := anw_in hm q r1
        have ce := qa_cell e I1 J1 A1 B h'.1 w (d := k) (v := 0) (by omega) (by decide)
        have ci : clV K R C lg m sw k 0 = (-1 : Int32) := (cl0_iN k).2 (spr_mem.1 q).2.1
        have hj := hh (show j < 64 by omega)
        rw [cv, j1] at hj
        rw [cv, q, if_neg (show ¬ bi true = (0 : Int32) by decide), sg_L_links_300, if_neg (show ¬ (1 : Int32) = 0 by decide), xe, if_neg (show ¬ i32 j = i32 k from fun z => j2 ((i32_eq (by omega) (by omega)).1 z)), if_neg (show ¬ i32 j < 0 by rw [show (0 : Int32) = i32 0 from rfl, i32_lt (by omega) (by decide)]; omega), hj, mm_aft_v, sg_L_links_326, if_neg (show ¬ bi true = (0 : Int32) by decide), show (0 : Int32) = i32 0 from rfl, ce, mm_aft_v, sg_L_links_336, if_pos ci, ← cv]
        exact fin _ _
    · have cv := carV_f hm
      have xe := anw_no hm r1
      rw [if_pos (show carV K R C (emp (bN K R C) (sN lg m sw 0) (sN lg m sw 1)) (sN lg m sw p) c1 c2 = (-1 : Int64) from cv), sg_L_links_299, sg_L_links_300, if_pos rfl, if_pos (show x = (-1 : Int32) from xe)]
      exact fin _ _
/-- the law's two ends, and what is found between them -/
theorem link_go (e : Nat) (I : Nat → Nat → Int32) (J : Nat → Nat → Int64) (A : Nat → Nat → Int32) (B : Nat → Nat → Int64) (h : RWd K R C lg m sw ea tk se pe us lo rc t tp pn ln tx n ra pl wo ls c I J A B) (x3 : Int32) {p c1 c2 : Nat} (hp : p < 2) (o1 : okE K R C c1) (o2 : okE K R C c2) : ∃ e' I' J' A' B', mm_run (mm_pr tb_L_links) (83, [some (.ref 0), some (.ref 39), some (.ref 78), some (.int x3), some (.int (i32 p)), some (.int (i32 c1)), none, none, none, none, none, none, none], [.int (i32 c2)], (79, e, mm_R0, I, J, A, B)) = some (.inl (some (.int 1)), (79, e', mm_R0, I', J', A', B')) ∧ RX c I' J' A' B' ∧ e' ≤ e + 3 := by
  have hb := h.2.2.2
  have hD := h.2.2.1
  have w := hb.1
  have hl := hb.2.1.1
  have bl := bN_le w.1
  have hS : bSd K ≤ 4 := bSd_le (K := K)
  have lt1 : c1 < 104 := by rcases o1 with z | z <;> omega
  have lt2 : c2 < 104 := by rcases o2 with z | z <;> omega
  -- both ask alike
  have two : ∀ v : Int64, Cal f_L_set [.int (2 : Int32), .int (i32 p), .int (i32 c1), .int (i32 c2)] (some (.long v)) (fun I J A B => CSd K R C lg m sw ea tk se pe us lo rc t tp pn ln tx n ra pl wo ls I J A B) (fun I J A B => CSd K R C lg m sw ea tk se pe us lo rc t tp pn ln tx n ra pl wo ls I J A B) → ∃ e' I' J' A' B', mm_run (mm_pr tb_L_links) (83, [some (.ref 0), some (.ref 39), some (.ref 78), some (.int x3), some (.int (i32 p)), some (.int (i32 c1)), none, none, none, none, none, none, none], [.int (i32 c2)], (79, e, mm_R0, I, J, A, B)) = mm_run (mm_pr tb_L_links) (120, [some (.ref 0), some (.ref 39), some (.ref 78), some (.int x3), some (.int (i32 p)), some (.int (i32 c1)), some (.int (i32 c2)), some (.long v), none, none, none, none, none], [.int (1 : Int32)], (79, e', mm_R0, I', J', A', B')) ∧ RWd K R C lg m sw ea tk se pe us lo rc t tp pn ln tx n ra pl wo ls c I' J' A' B' ∧ e' ≤ e + 2 := by
    intro v cal
    obtain ⟨e1, I1, J1, A1, B1, r1, r2, r3, r4⟩ := cal e I J A B h.1
    have h1 : RWd K R C lg m sw ea tk se pe us lo rc t tp pn ln tx n ra pl wo ls c I1 J1 A1 B1 := h.one r2 r3
    obtain ⟨e2, I2, J2, A2, B2, q1, q2, q3, q4⟩ := cal.twin qf_L_set rfl rfl e1 I1 J1 A1 B1 h1.2.1
    have o2 : CSd K R C lg m sw ea tk se pe us lo rc t tp pn ln tx n ra pl wo ls I2 J2 A2 B2 := r2.low (fun i hi => q3.1 i (Or.inl hi)) (fun i hi => q3.2.1 i (Or.inl hi)) (fun i hi => q3.2.2.1 i (Or.inl hi)) (fun i hi => q3.2.2.2 i (Or.inl hi))
    refine ⟨e2, I2, J2, A2, B2, ?_, ⟨o2, q2, h1.2.2.1.co (q3.2.2.1 78 (Or.inr (Nat.le_refl _))), hb⟩, by omega⟩
    rw [sg_L_links_83, r1, mm_aft_v, sg_L_links_96, q1, mm_aft_v, sg_L_links_111, if_pos rfl]
  rcases bo_carrier w hp o1 o2 with ⟨k1, k2⟩ | ⟨k1, k2⟩ | ⟨k1, k3, k2, k4⟩
  · obtain ⟨e', I', J', A', B', q1, q2, q3⟩ := two _ k2
    refine ⟨e', I', J', A', B', ?_, RWd.rx _ _ _ _ q2, by omega⟩
    have fin : mm_run (mm_pr tb_L_links) (181, [some (.ref 0), some (.ref 39), some (.ref 78), some (.int x3), some (.int (i32 p)), some (.int (i32 c1)), some (.int (i32 c2)), some (.long (-2000000002 : Int64)), none, some (.int (1 : Int32)), none, none, none], [], (79, e', mm_R0, I', J', A', B')) = some (.inl (some (.int 1)), (79, e', mm_R0, I', J', A', B')) := by
      rw [sg_L_links_181, sg_L_links_186, if_pos (Or.inr rfl)]
    -- a cell that isn't this player's
    have off : ∀ d, d < 104 → okE K R C d → isE (sN lg m sw p) (i32 d) = false → d < 100 ∧ d < bN K R C ∧ ¬ clV K R C lg m sw d 0 = i32 p := by
      intro d hd hok z
      rw [isE_i hd, Bool.or_eq_false_iff, decide_eq_false_iff_not] at z
      have dl : d < bN K R C := by rcases hok with y | y <;> omega
      refine ⟨by omega, dl, fun y => ?_⟩
      rw [cl0] at y
      by_cases y1 : mb (emp (bN K R C) (sN lg m sw 0) (sN lg m sw 1)) d = true
      · rw [if_pos y1] at y
        exact (iN_ne (show p < 2147483648 by omega)).1 y.symm
      · rw [if_neg y1] at y
        rcases (show p = 0 ∨ p = 1 by omega) with pe | pe
        · subst pe
          rw [z.2, if_neg (by decide)] at y
          exact absurd y (by decide)
        · subst pe
          rcases (emp_f w dl).1 (bool_f y1) with y2 | y2
          · rw [y2, if_pos rfl] at y
            exact absurd y (by decide)
          · rw [z.2] at y2; cases y2
    rw [q1, sg_L_links_120, if_pos rfl, if_neg (show ¬ (1 : Int32) = 0 by decide)]
    by_cases y : i32 c1 = i32 c2
    · rw [if_pos y]
      exact fin
    · rw [if_neg y]
      have cell1 : isE (sN lg m sw p) (i32 c1) = false ∨ isE (sN lg m sw p) (i32 c2) = false := k1.resolve_left y
      have s162 : isE (sN lg m sw p) (i32 c2) = false → mm_run (mm_pr tb_L_links) (162, [some (.ref 0), some (.ref 39), some (.ref 78), some (.int x3), some (.int (i32 p)), some (.int (i32 c1)), some (.int (i32 c2)), some (.long (-2000000002 : Int64)), none, some (.int (1 : Int32)), none, none, none], [], (79, e', mm_R0, I', J', A', B')) = some (.inl (some (.int 1)), (79, e', mm_R0, I', J', A', B')) := by
        intro z
        obtain ⟨y1, y2, y3⟩ := off c2 lt2 o2 z
        have ce := qa_cell e' I' J' A' B' q2.1 w (d := c2) (v := 0) y2 (by decide)
        rw [sg_L_links_162, if_pos (show i32 c2 < (100 : Int32) by rw [show (100 : Int32) = i32 100 from rfl, i32_lt (by omega) (by decide)]; omega), show (0 : Int32) = i32 0 from rfl, ce, mm_aft_v, sg_L_links_176, if_neg y3]
        exact fin
      by_cases z : isE (sN lg m sw p) (i32 c1) = false
      · obtain ⟨y1, y2, y3⟩ := off c1 lt1 o1 z
        have ce := qa_cell e' I' J' A' B' q2.1 w (d := c1) (v := 0) y2 (by decide)
        rw [if_pos (show i32 c1 < (100 : Int32) by rw [show (100 : Int32) = i32 100 from rfl, i32_lt (by omega) (by decide)]; omega), show (0 : Int32) = i32 0 from rfl, ce, mm_aft_v, sg_L_links_157, if_neg y3]
        exact fin
      · have z2 := cell1.resolve_left z
        by_cases y1 : i32 c1 < (100 : Int32)
        · have y2 : c1 < bN K R C := by
            have : c1 < 100 := (i32_lt (b := 100) (by omega) (by decide)).1 y1
            rcases o1 with y2 | y2 <;> omega
          have ce := qa_cell e' I' J' A' B' q2.1 w (d := c1) (v := 0) y2 (by decide)
          have own : clV K R C lg m sw c1 0 = i32 p := by
            have c100 : c1 < 100 := by omega
            have zt : mb (sN lg m sw p) c1 = true := by
              cases y : mb (sN lg m sw p) c1 with
              | true => rfl
              | false => exact absurd (by rw [isE_i lt1, y, decide_eq_false (by omega)]; rfl) z
            have em : mb (emp (bN K R C) (sN lg m sw 0) (sN lg m sw 1)) c1 = false := (emp_f w y2).2 (by
              rcases (show p = 0 ∨ p = 1 by omega) with pe | pe <;> subst pe
              · exact Or.inl zt
              · exact Or.inr zt)
            rw [cl0, if_neg (by rw [em]; decide)]
            rcases (show p = 0 ∨ p = 1 by omega) with pe | pe <;> subst pe
            · rw [if_pos zt]
            · by_cases y0 : mb (sN lg m sw 0) c1 = true
              · exact absurd zt (by rw [show mb (sN lg m sw 1) c1 = false from sN_disj w (p := 0) (by decide) c1 y0]; decide)
              · rw [if_neg y0]
          rw [if_pos y1, show (0 : Int32) = i32 0 from rfl, ce, mm_aft_v, sg_L_links_157, if_pos own]
          exact s162 z2
        · rw [if_neg y1]
          exact s162 z2
  · obtain ⟨e', I', J', A', B', q1, q2, q3⟩ := two _ k2
    refine ⟨e', I', J', A', B', ?_, RWd.rx _ _ _ _ q2, by omega⟩
    have t2 := qa_told e' I' J' A' B' q2.1 w hl (v := 2) (by decide)
    rw [td_2] at t2
    have gl : gn (emp (bN K R C) (sN lg m sw 0) (sN lg m sw 1)) ≤ 36 := cf_le _ _
    rw [q1, sg_L_links_120, if_neg (show ¬ (-2000000003 : Int64) = (-2000000002 : Int64) by decide), if_pos rfl, if_neg (show ¬ (1 : Int32) = 0 by decide), show (2 : Int32) = i32 2 from rfl, t2, mm_aft_v, sg_L_links_206, if_pos (show (9 : Int32) < i32 (gn (emp (bN K R C) (sN lg m sw 0) (sN lg m sw 1))) by rw [show (9 : Int32) = i32 9 from rfl, i32_lt (by decide) (by omega)]; exact k1), sg_L_links_216, if_pos (Or.inr rfl)]
  · obtain ⟨e', I', J', A', B', q1, q2, q3⟩ := two _ k2
    obtain ⟨e1, I1, J1, A1, B1, r1, r2, r3, r4⟩ := k4 e' I' J' A' B' q2.1
    have h1 : RWd K R C lg m sw ea tk se pe us lo rc t tp pn ln tx n ra pl wo ls c I1 J1 A1 B1 := q2.one r2 r3
    obtain ⟨e2, I2, J2, A2, B2, z1, z2, z3⟩ := link_in x3 hp o1 o2 k1 (bN K R C) 0 e1 I1 J1 A1 B1 none none (by omega) h1
    refine ⟨e2, I2, J2, A2, B2, ?_, z2, by omega⟩
    have nn : ¬ carV K R C (emp (bN K R C) (sN lg m sw 0) (sN lg m sw 1)) (sN lg m sw p) c1 c2 = (-2000000002 : Int64) ∧ ¬ carV K R C (emp (bN K R C) (sN lg m sw 0) (sN lg m sw 1)) (sN lg m sw p) c1 c2 = (-2000000003 : Int64) := by
      by_cases hm : ∃ a, MinC (TT K R C (emp (bN K R C) (sN lg m sw 0) (sN lg m sw 1)) (sN lg m sw p) c1 c2) (gn (emp (bN K R C) (sN lg m sw 0) (sN lg m sw 1))) a
      · obtain ⟨a, hm⟩ := hm
        rw [carV_t hm]
        exact (car_hi hm).2
      · rw [carV_f hm]
        exact ⟨by decide, by decide⟩
    rw [q1, sg_L_links_120, if_neg nn.1, if_neg nn.2, if_neg (show ¬ (1 : Int32) = 0 by decide), r1, mm_aft_v, sg_L_links_235, if_pos rfl, sg_L_links_244]
    exact z1
theorem lw_links (e : Nat) (I : Nat → Nat → Int32) (J : Nat → Nat → Int64) (A : Nat → Nat → Int32) (B : Nat → Nat → Int64) (h : RWd K R C lg m sw ea tk se pe us lo rc t tp pn ln tx n ra pl wo ls c I J A B) (x3 : Int32) : LStp f_L_links [.ref 0, .ref 39, .ref 78, .int x3] c c 3 e I J A B := by
  have hb := h.2.2.2
  have w := hb.1
  have hk := bV_K w.1
  have bl := bN_le w.1
  have b3 := bN_pos w.1
  have bs := bSd_sub hk.1
  have a3 : A 78 ((3 : Int32)).toInt.toNat = i32 K := h.2.2.1.2.2.2.1
  have hN : A 78 ((0 : Int32)).toInt.toNat = i32 (bN K R C) := h.2.2.1.1
  have k4 : (4 : Int32) - i32 K = i32 (4 - K) := i32_sub (a := 4) (by omega)
  -- an end: a side or a cell
  have en : ∀ x : Int32, (∃ r, r < 4 - K ∧ f_L_some [.int x, .int (i32 (4 - K))] (79, e, mm_R0, I, J, A, B) = some (.inl (some (.int (i32 r))), (79, e, mm_R0, I, J, A, B))) ∧ (∃ r, r < bN K R C ∧ f_L_some [.int x, .int (i32 (bN K R C))] (79, e, mm_R0, I, J, A, B) = some (.inl (some (.int (i32 r))), (79, e, mm_R0, I, J, A, B))) := fun x => ⟨lw_some _ x (by omega) (by omega), lw_some _ x (by omega) (by omega)⟩
  obtain ⟨p, p1, p2⟩ := lw_some (79, e, mm_R0, I, J, A, B) x3 (k := 2) (by decide) (by decide)
  obtain ⟨u, u1, u2⟩ := lw_some (79, e, mm_R0, I, J, A, B) (x3 >>> ((2 : Int32) &&& 31)) (k := 3) (by decide) (by decide)
  obtain ⟨v, v1, v2⟩ := lw_some (79, e, mm_R0, I, J, A, B) (x3 >>> ((3 : Int32) &&& 31)) (k := 3) (by decide) (by decide)
  have p2' : f_L_some [.int x3, .int (2 : Int32)] (79, e, mm_R0, I, J, A, B) = some (.inl (some (.int (i32 p))), (79, e, mm_R0, I, J, A, B)) := p2
  have u2' : f_L_some [.int (x3 >>> ((2 : Int32) &&& 31)), .int (3 : Int32)] (79, e, mm_R0, I, J, A, B) = some (.inl (some (.int (i32 u))), (79, e, mm_R0, I, J, A, B)) := u2
  have v2' : f_L_some [.int (x3 >>> ((3 : Int32) &&& 31)), .int (3 : Int32)] (79, e, mm_R0, I, J, A, B) = some (.inl (some (.int (i32 v))), (79, e, mm_R0, I, J, A, B)) := v2
  have first : ∃ c1, okE K R C c1 ∧ mm_run (mm_pr tb_L_links) (14, [some (.ref 0), some (.ref 39), some (.ref 78), some (.int x3), some (.int (i32 p)), none, none, none, none, none, none, none, none], [.int (i32 u)], (79, e, mm_R0, I, J, A, B)) = mm_run (mm_pr tb_L_links) (43, [some (.ref 0), some (.ref 39), some (.ref 78), some (.int x3), some (.int (i32 p)), none, none, none, none, none, none, none, none], [.int (i32 c1)], (79, e, mm_R0, I, J, A, B)) := by
    obtain ⟨⟨r, r1, r2⟩, ⟨s, s1, s2⟩⟩ := en (x3 >>> ((5 : Int32) &&& 31))
    by_cases z : i32 u = (0 : Int32)
    · refine ⟨100 + r, Or.inr ⟨by omega, by omega⟩, ?_⟩
      rw [sg_L_links_14, if_pos z, a3, k4, r2, mm_aft_v, sg_L_links_30, show (100 : Int32) + i32 r = i32 (100 + r) from i32_add 100 r]
    · refine ⟨s, Or.inl s1, ?_⟩
      rw [sg_L_links_14, if_neg z, hN, s2, mm_aft_v]
  have second : ∀ c1, ∃ c2, okE K R C c2 ∧ mm_run (mm_pr tb_L_links) (52, [some (.ref 0), some (.ref 39), some (.ref 78), some (.int x3), some (.int (i32 p)), some (.int c1), none, none, none, none, none, none, none], [.int (i32 v)], (79, e, mm_R0, I, J, A, B)) = mm_run (mm_pr tb_L_links) (83, [some (.ref 0), some (.ref 39), some (.ref 78), some (.int x3), some (.int (i32 p)), some (.int c1), none, none, none, none, none, none, none], [.int (i32 c2)], (79, e, mm_R0, I, J, A, B)) := by
    intro c1
    obtain ⟨⟨r, r1, r2⟩, ⟨s, s1, s2⟩⟩ := en (x3 >>> ((8 : Int32) &&& 31))
    by_cases z : (0 : Int32) < i32 v
    · refine ⟨100 + r, Or.inr ⟨by omega, by omega⟩, ?_⟩
      rw [sg_L_links_52, if_pos z, a3, k4, r2, mm_aft_v, sg_L_links_69, show (100 : Int32) + i32 r = i32 (100 + r) from i32_add 100 r]
    · refine ⟨s, Or.inl s1, ?_⟩
      rw [sg_L_links_52, if_neg z, hN, s2, mm_aft_v]
  obtain ⟨c1, o1, f1⟩ := first
  obtain ⟨c2, o2, f2⟩ := second (i32 c1)
  obtain ⟨e', I', J', A', B', q1, q2, q3⟩ := link_go e I J A B h x3 p1 o1 o2
  unfold LStp
  refine ⟨e', I', J', A', B', ?_, q2, q3⟩
  rw [en_L_links, sg_L_links_0, p2', mm_aft_v, sg_L_links_5, u2', mm_aft_v, f1, sg_L_links_43, v2', mm_aft_v, f2]
  exact q1
end
