/-! the law's moves -/
section
variable {K R C : Nat} {lg : Nat → Nat} {m : Nat} {sw : Bool} {ea : Nat} {tk : Bool} {se pe us : Nat → Nat} {lo : Nat} {rc : Bool} {t : Nat} {tp : Nat → Nat} {pn : Nat} {ln : Nat → Nat} {tx : Nat → Nat → Nat} {n : Nat} {ra : Nat → Int} {pl wo ls : Nat → Nat} {c : Nat}
theorem RWd.rx (I : Nat → Nat → Int32) (J : Nat → Nat → Int64) (A : Nat → Nat → Int32) (B : Nat → Nat → Int64) (h : RWd K R C lg m sw ea tk se pe us lo rc t tp pn ln tx n ra pl wo ls c I J A B) : RX c I J A B := ⟨_, _, _, _, _, _, _, _, _, _, _, _, _, _, _, _, _, _, _, _, _, _, _, h⟩
/-- the calls of both, as the law makes them -/
theorem bo_move (hb : BXd K R C lg m sw ea tk se pe us lo rc t tp pn ln tx n ra pl wo ls c) {d : Nat} (hd : d < bN K R C) (y4 y5 y6 : Int32) : (mb (emp (bN K R C) (sN lg m sw 0) (sN lg m sw 1)) d = false ∧ Cal f_L_call [.int (1 : Int32), .int (i32 d), .int y4, .int y5, .int y6] (some (.int (-2000000002 : Int32))) (fun I J A B => CSd K R C lg m sw ea tk se pe us lo rc t tp pn ln tx n ra pl wo ls I J A B) (fun I J A B => CSd K R C lg m sw ea tk se pe us lo rc t tp pn ln tx n ra pl wo ls I J A B)) ∨ (mb (emp (bN K R C) (sN lg m sw 0) (sN lg m sw 1)) d = true ∧ ¬ wnr K R C lg m sw lo = iN ∧ Cal f_L_call [.int (1 : Int32), .int (i32 d), .int y4, .int y5, .int y6] (some (.int (-2000000003 : Int32))) (fun I J A B => CSd K R C lg m sw ea tk se pe us lo rc t tp pn ln tx n ra pl wo ls I J A B) (fun I J A B => CSd K R C lg m sw ea tk se pe us lo rc t tp pn ln tx n ra pl wo ls I J A B)) ∨ (mb (emp (bN K R C) (sN lg m sw 0) (sN lg m sw 1)) d = true ∧ wnr K R C lg m sw lo = iN ∧ Cal f_L_call [.int (1 : Int32), .int (i32 d), .int y4, .int y5, .int y6] (some (.int (wnr K R C (lgp lg m d) (m + 1) sw lo))) (fun I J A B => CSd K R C lg m sw ea tk se pe us lo rc t tp pn ln tx n ra pl wo ls I J A B) (fun I J A B => CSd K R C (lgp lg m d) (m + 1) sw ea tk se pe (upN us (m % 2) 0) lo rc t tp pn ln tx n ra pl wo ls I J A B)) := by
  cases he : mb (emp (bN K R C) (sN lg m sw 0) (sN lg m sw 1)) d with
  | false => exact Or.inl ⟨rfl, Cal.no (fun e I J A B hc => wx_move_2 e I J A B _ _ _ _ (cC_move_2 e I J A B hc.1 hd he))⟩
  | true =>
    by_cases hw : wnr K R C lg m sw lo = iN
    · refine Or.inr (Or.inr ⟨rfl, hw, fun e I J A B hc => ?_⟩)
      obtain ⟨e', I', J', A', B', h1, h2, h3, h4⟩ := cx_move hb.1 hb.2.1.1 he hw e I J A B hc
      exact ⟨e', I', J', A', B', wl_move e I J A B _ _ _ _ h1, h2, h3, h4⟩
    · exact Or.inr (Or.inl ⟨rfl, hw, Cal.no (fun e I J A B hc => wx_move_3 e I J A B _ _ _ _ (cC_move_3 e I J A B hc.1 hc.2.1 hb.2.1.1 hd he hw))⟩)
theorem bo_swap_no (hb : BXd K R C lg m sw ea tk se pe us lo rc t tp pn ln tx n ra pl wo ls c) (no : ¬ wnr K R C lg m sw lo = iN ∨ m ≠ 1) (y3 y4 y5 y6 : Int32) : Cal f_L_call [.int (2 : Int32), .int y3, .int y4, .int y5, .int y6] (some (.int (-2000000003 : Int32))) (fun I J A B => CSd K R C lg m sw ea tk se pe us lo rc t tp pn ln tx n ra pl wo ls I J A B) (fun I J A B => CSd K R C lg m sw ea tk se pe us lo rc t tp pn ln tx n ra pl wo ls I J A B) := Cal.no (fun e I J A B hc => wx_swap_3 e I J A B _ _ _ _ (cC_swap_no e I J A B hc.1 hc.2.1 hb.2.1.1 no))
theorem bo_swap (hb : BXd K R C lg 1 sw ea tk se pe us lo rc t tp pn ln tx n ra pl wo ls c) (hw : wnr K R C lg 1 sw lo = iN) (y3 y4 y5 y6 : Int32) : Cal f_L_call [.int (2 : Int32), .int y3, .int y4, .int y5, .int y6] (some (.int (i32 (mirB K R C (lg 0))))) (fun I J A B => CSd K R C lg 1 sw ea tk se pe us lo rc t tp pn ln tx n ra pl wo ls I J A B) (fun I J A B => CSd K R C (lgp lg 1 (mirB K R C (lg 0))) 2 true ea tk se pe (upN us 1 0) lo rc t tp pn ln tx n ra pl wo ls I J A B) := fun e I J A B hc => by
  obtain ⟨e', I', J', A', B', h1, h2, h3, h4⟩ := cx_swap hb.1 hb.2.1.1 hw e I J A B hc
  exact ⟨e', I', J', A', B', wl_swap e I J A B _ _ _ _ h1, h2, h3, h4⟩
theorem bo_undo_no (hb : BXd K R C lg m sw ea tk se pe us lo rc t tp pn ln tx n ra pl wo ls c) (no : m = 0 ∨ lo ≠ 0 ∨ rc = true) (y3 y4 y5 y6 : Int32) : Cal f_L_call [.int (3 : Int32), .int y3, .int y4, .int y5, .int y6] (some (.int (-2000000003 : Int32))) (fun I J A B => CSd K R C lg m sw ea tk se pe us lo rc t tp pn ln tx n ra pl wo ls I J A B) (fun I J A B => CSd K R C lg m sw ea tk se pe us lo rc t tp pn ln tx n ra pl wo ls I J A B) := Cal.no (fun e I J A B hc => wx_undo_3 e I J A B _ _ _ _ (cC_undo_no e I J A B hc.1 hc.2.1 hb.2.1.1 hc.2.2.1 no))
theorem bo_undo (h0 : 0 < m) (y3 y4 y5 y6 : Int32) : Cal f_L_call [.int (3 : Int32), .int y3, .int y4, .int y5, .int y6] (some (.int (i32 (m - 1)))) (fun I J A B => CSd K R C lg m sw ea tk se pe us 0 false t tp pn ln tx n ra pl wo ls I J A B) (fun I J A B => CSd K R C lg (m - 1) (swB sw m) ea tk se pe us 0 false t tp pn ln tx n ra pl wo ls I J A B) := fun e I J A B hc => by
  obtain ⟨e', I', J', A', B', h1, h2, h3, h4⟩ := cx_undo h0 e I J A B hc
  exact ⟨e', I', J', A', B', wl_undo e I J A B _ _ _ _ h1, h2, h3, h4⟩
theorem i32_1m {a : Nat} (h : a < 2) : (1 : Int32) - i32 a = i32 (1 - a) := by
  rcases (show a = 0 ∨ a = 1 by omega) with q | q <;> (subst q; rfl)
theorem big_ne {a : Nat} (h : a < 2147483648) : ¬ i32 a = (-2000000002 : Int32) ∧ ¬ i32 a = (-2000000003 : Int32) ∧ ¬ i32 a = (-2000000001 : Int32) := by
  have e : ∀ x : Int32, x.toInt < 0 → ¬ i32 a = x := fun x hx z => by
    have := i32_toInt h
    rw [z] at this
    omega
  exact ⟨e _ (by decide), e _ (by decide), e _ (by decide)⟩
theorem lw_moves (e : Nat) (I : Nat → Nat → Int32) (J : Nat → Nat → Int64) (A : Nat → Nat → Int32) (B : Nat → Nat → Int64) (h : RWd K R C lg m sw ea tk se pe us lo rc t tp pn ln tx n ra pl wo ls c I J A B) (x3 x4 : Int32) : LStp f_L_moves [.ref 0, .ref 39, .ref 78, .int x3, .int x4] c c 3 e I J A B := by
  obtain ⟨h1, h2, hD, hb⟩ := h
  have w := hb.1
  have hl := hb.2.1.1
  have bl := bN_le w.1
  have b3 := bN_pos w.1
  have ml := m_le w
  have hN : A 78 ((0 : Int32)).toInt.toNat = i32 (bN K R C) := hD.1
  obtain ⟨how, how1, how2⟩ := lw_some (79, e, mm_R0, I, J, A, B) x3 (k := 10) (by decide) (by decide)
  have t0 := qa_told e I J A B h1 w hl (v := 0) (by decide)
  have t4 := qa_told e I J A B h1 w hl (v := 4) (by decide)
  have t1 := qa_told e I J A B h1 w hl (v := 1) (by decide)
  rw [td_0] at t0
  rw [td_4] at t4
  rw [td_1] at t1
  have lit : ∀ k : Nat, k < 8 → (i32 how < i32 k ↔ how < k) := fun k hk => i32_lt (by omega) (by omega)
  unfold LStp
  rw [en_L_moves, sg_L_moves_0, show (10 : Int32) = i32 10 from rfl, how2, mm_aft_v, sg_L_moves_6, show (0 : Int32) = i32 0 from rfl, t0, mm_aft_v, sg_L_moves_13, show (4 : Int32) = i32 4 from rfl, t4, mm_aft_v, sg_L_moves_20]
  by_cases q7 : how < 7
  · -- a move
    rw [if_pos (show i32 how < (7 : Int32) from (lit 7 (by decide)).2 q7)]
    obtain ⟨d, d1, d2⟩ := lw_some (79, e, mm_R0, I, J, A, B) x4 (k := bN K R C) (by omega) (by omega)
    rw [hN, d2, mm_aft_v, sg_L_moves_37, show (0 : Int32) = i32 0 from rfl, qa_cell e I J A B h1 w d1 (v := 0) (by decide), mm_aft_v, sg_L_moves_46]
    have fin : ∀ (y : Int32), (y = 1 ↔ mb (emp (bN K R C) (sN lg m sw 0) (sN lg m sw 1)) d = true) → (y = 0 ↔ mb (emp (bN K R C) (sN lg m sw 0) (sN lg m sw 1)) d = false) → ∃ e' I' J' A' B', mm_run (mm_pr tb_L_moves) (55, [some (.ref 0), some (.ref 39), some (.ref 78), some (.int x3), some (.int x4), some (.int (i32 how)), some (.int (i32 m)), some (.int (wnr K R C lg m sw lo)), some (.int (i32 d)), none, none, none], [.int y], (79, e, mm_R0, I, J, A, B)) = some (.inl (some (.int 1)), (79, e', mm_R0, I', J', A', B')) ∧ RX c I' J' A' B' ∧ e' ≤ e + 3 := by
      intro y y1 y0
      rw [sg_L_moves_55, show (1 : Int32) = i32 1 from rfl, t1, mm_aft_v, sg_L_moves_62]
      rcases bo_move hb d1 0 0 0 with ⟨k1, k2⟩ | ⟨k1, k2, k3⟩ | ⟨k1, k2, k3⟩
      · obtain ⟨e', I', J', A', B', r1, r2, r3, r4, r5⟩ := both_of k2 (CSd.lowP _ _ _ _ _ _ _ _ _ _ _ _ _ _ _ _ _ _ _ _ _ _ _) (CSd.lowP _ _ _ _ _ _ _ _ _ _ _ _ _ _ _ _ _ _ _ _ _ _ _) e I J A B h1 h2
        refine ⟨e', I', J', A', B', ?_, RWd.rx _ _ _ _ ⟨r2, r3, hD.co r4, hb⟩, by omega⟩
        rw [show i32 1 = (1 : Int32) from rfl, r1, mm_aft_v, sg_L_moves_75, if_pos rfl, if_pos (y0.2 k1), sg_L_moves_211, if_pos (Or.inr rfl)]
      · obtain ⟨e', I', J', A', B', r1, r2, r3, r4, r5⟩ := both_of k3 (CSd.lowP _ _ _ _ _ _ _ _ _ _ _ _ _ _ _ _ _ _ _ _ _ _ _) (CSd.lowP _ _ _ _ _ _ _ _ _ _ _ _ _ _ _ _ _ _ _ _ _ _ _) e I J A B h1 h2
        refine ⟨e', I', J', A', B', ?_, RWd.rx _ _ _ _ ⟨r2, r3, hD.co r4, hb⟩, by omega⟩
        have ny : ¬ y = 0 := fun z => by rw [y0.1 z] at k1; cases k1
        rw [show i32 1 = (1 : Int32) from rfl, r1, mm_aft_v, sg_L_moves_75, if_neg (by decide), if_pos rfl, if_neg ny, if_neg (show ¬ wnr K R C lg m sw lo = (-1 : Int32) from k2), sg_L_moves_211, if_pos (Or.inr rfl)]
      · obtain ⟨e', I', J', A', B', r1, r2, r3, r4, r5⟩ := both_of k3 (CSd.lowP _ _ _ _ _ _ _ _ _ _ _ _ _ _ _ _ _ _ _ _ _ _ _) (CSd.lowP _ _ _ _ _ _ _ _ _ _ _ _ _ _ _ _ _ _ _ _ _ _ _) e I J A B h1 h2
        have hb' := bx_move hb k1 k2
        have w' := hb'.1
        have l0 := (wnr_lo hl k2).1
        subst l0
        refine ⟨e', I', J', A', B', ?_, RWd.rx _ _ _ _ ⟨r2, r3, hD.co r4, hb'⟩, by omega⟩
        have ny : ¬ y = 0 := fun z => by rw [y0.1 z] at k1; cases k1
        obtain ⟨c0, c6⟩ := cl_put w k1
        have t0' := qa_told e' I' J' A' B' r2 w' (by decide) (v := 0) (by decide)
        have t4' := qa_told e' I' J' A' B' r2 w' (by decide) (v := 4) (by decide)
        have t1' := qa_told e' I' J' A' B' r2 w' (by decide) (v := 1) (by decide)
        have c0' := qa_cell e' I' J' A' B' r2 w' d1 (v := 0) (by decide)
        have c6' := qa_cell e' I' J' A' B' r2 w' d1 (v := 6) (by decide)
        rw [td_0] at t0'
        rw [td_4] at t4'
        rw [td_1] at t1'
        rw [c0] at c0'
        rw [c6] at c6'
        have wp := wnr_put (d := d) w k2
        have nb2 : ¬ wnr K R C (lgp lg m d) (m + 1) sw 0 = (-2000000002 : Int32) ∧ ¬ wnr K R C (lgp lg m d) (m + 1) sw 0 = (-2000000003 : Int32) := by
          rcases wp with z | z
          · rw [z]; exact ⟨by decide, by decide⟩
          · rw [z]; have := big_ne (a := m % 2) (by omega); exact ⟨this.1, this.2.1⟩
        rw [show i32 1 = (1 : Int32) from rfl, r1, mm_aft_v, sg_L_moves_75, if_neg nb2.1, if_neg nb2.2, if_neg ny, if_pos (show wnr K R C lg m sw 0 = (-1 : Int32) from k2), show (0 : Int32) = i32 0 from rfl, t0', mm_aft_v, sg_L_moves_139, if_pos (show i32 (m + 1) = i32 m + (1 : Int32) from (i32_add m 1).symm), show (0 : Int32) = i32 0 from rfl, c0', mm_aft_v, sg_L_moves_153, if_pos rfl, show (6 : Int32) = i32 6 from rfl, c6', mm_aft_v, sg_L_moves_166, if_pos rfl, show (4 : Int32) = i32 4 from rfl, t4', mm_aft_v, sg_L_moves_178, if_pos rfl]
        have tl : mm_run (mm_pr tb_L_moves) (194, [some (.ref 0), some (.ref 39), some (.ref 78), some (.int x3), some (.int x4), some (.int (i32 how)), some (.int (i32 m)), some (.int (wnr K R C lg m sw 0)), some (.int (i32 d)), some (.int y), some (.int (i32 (m % 2))), some (.int (wnr K R C (lgp lg m d) (m + 1) sw 0))], [], (79, e', mm_R0, I', J', A', B')) = some (.inl (some (.int 1)), (79, e', mm_R0, I', J', A', B')) := by
          rw [sg_L_moves_194, show (1 : Int32) = i32 1 from rfl, t1', mm_aft_v, sg_L_moves_199, if_pos (show i32 ((m + 1) % 2) = (1 : Int32) - i32 (m % 2) by rw [i32_1m (by omega)]; congr 1; omega), sg_L_moves_211, if_pos (Or.inr rfl)]
          rfl
        rcases wp with z | z
        · rw [if_pos (show wnr K R C (lgp lg m d) (m + 1) sw 0 = (-1 : Int32) from z)]
          exact tl
        · by_cases z2 : wnr K R C (lgp lg m d) (m + 1) sw 0 = (-1 : Int32)
          · rw [if_pos z2]; exact tl
          · rw [if_neg z2, if_pos z]; exact tl
    have ci := cl0_iN (K := K) (R := R) (C := C) (lg := lg) (m := m) (sw := sw) d
    by_cases z : clV K R C lg m sw d 0 = iN
    · rw [if_pos (show clV K R C lg m sw d 0 = (-1 : Int32) from z)]
      exact fin 1 ⟨fun _ => ci.1 z, fun _ => rfl⟩ ⟨fun y => absurd y (by decide), fun y => by rw [ci.1 z] at y; cases y⟩
    · rw [if_neg (show ¬ clV K R C lg m sw d 0 = (-1 : Int32) from z)]
      exact fin 0 ⟨fun y => absurd y (by decide), fun y => absurd (ci.2 y) z⟩ ⟨fun _ => bool_f (fun y => z (ci.2 y)), fun _ => rfl⟩
  · rw [if_neg (show ¬ i32 how < (7 : Int32) from fun z => q7 ((lit 7 (by decide)).1 z))]
    by_cases q8 : how < 8
    · -- the swap
      rw [if_pos (show i32 how < (8 : Int32) by rw [show (8 : Int32) = i32 8 from rfl, i32_lt (by omega) (by decide)]; exact q8)]
      by_cases q : wnr K R C lg m sw lo = iN ∧ m = 1
      · obtain ⟨hw, rfl⟩ := q
        have k := bo_swap hb hw 0 0 0 0
        obtain ⟨e', I', J', A', B', r1, r2, r3, r4, r5⟩ := both_of k (CSd.lowP _ _ _ _ _ _ _ _ _ _ _ _ _ _ _ _ _ _ _ _ _ _ _) (CSd.lowP _ _ _ _ _ _ _ _ _ _ _ _ _ _ _ _ _ _ _ _ _ _ _) e I J A B h1 h2
        have hb' := bx_swap hb hw
        have w' := hb'.1
        obtain ⟨_, _, mr⟩ := w.swap
        refine ⟨e' + 1, I', J', A', B', ?_, RWd.rx _ _ _ _ ⟨r2, r3, hD.co r4, hb'⟩, by omega⟩
        obtain ⟨c0, c6⟩ := cl_swap w w' mr
        have t0' := qa_told e' I' J' A' B' r2 w' hl (v := 0) (by decide)
        have t2' := qa_told e' I' J' A' B' r2 w' hl (v := 2) (by decide)
        have t5' := qa_told e' I' J' A' B' r2 w' hl (v := 5) (by decide)
        have c0' := qa_cell e' I' J' A' B' r2 w' mr (v := 0) (by decide)
        have c6' := qa_cell e' I' J' A' B' r2 w' mr (v := 6) (by decide)
        have g := gn_aS w' (n := 2) (Nat.le_refl _)
        rw [kf_t (by decide)] at g
        rw [td_0] at t0'
        rw [td_2] at t2'
        rw [td5_swap] at t5'
        rw [c0] at c0'
        rw [c6] at c6'
        have g1 : gn (emp (bN K R C) (sN (lgp lg 1 (mirB K R C (lg 0))) 2 true 0) (sN (lgp lg 1 (mirB K R C (lg 0))) 2 true 1)) = bN K R C - 1 := by
          have g : gn (emp (bN K R C) (sN (lgp lg 1 (mirB K R C (lg 0))) 2 true 0) (sN (lgp lg 1 (mirB K R C (lg 0))) 2 true 1)) + (2 - 1) = bN K R C := g
          omega
        rw [g1] at t2'
        have gv : f_L_call [.ref 0, .int (10 : Int32), .int (1 : Int32), .int (0 : Int32), .int (0 : Int32), .int (0 : Int32)] (79, e', mm_R0, I', J', A', B') = some (.inl (some (.int (-2000000002 : Int32))), (79, e' + 1, mm_R0, I', J', A', B')) := wx_gaveAway_2 e' I' J' A' B' _ _ _ _ (cC_gave_2 e' I' J' A' B' r2.1 (by decide) rfl)
        have bn := big_ne (a := mirB K R C (lg 0)) (by omega)
        have hN' : A' 78 ((0 : Int32)).toInt.toNat = i32 (bN K R C) := by rw [r4]; exact hN
        rw [r1, mm_aft_v, sg_L_moves_229, if_neg bn.2.1, if_pos (show i32 1 = (1 : Int32) from rfl), show (0 : Int32) = i32 0 from rfl, t0', mm_aft_v, sg_L_moves_269, if_pos (show i32 2 = (2 : Int32) from rfl), show (2 : Int32) = i32 2 from rfl, t2', mm_aft_v, sg_L_moves_278, hN', if_pos (show i32 (bN K R C - 1) = i32 (bN K R C) - (1 : Int32) from (i32_sub (a := bN K R C) (b := 1) (by omega)).symm), show (0 : Int32) = i32 0 from rfl, c0', mm_aft_v, sg_L_moves_293, if_pos (show i32 1 = (1 : Int32) from rfl), show (6 : Int32) = i32 6 from rfl, c6', mm_aft_v, sg_L_moves_305, if_pos (show i32 1 = (1 : Int32) from rfl), show (5 : Int32) = i32 5 from rfl, t5', mm_aft_v, sg_L_moves_314, if_pos (show i32 0 = 0 from rfl), gv, mm_aft_v, sg_L_moves_327, if_pos rfl, sg_L_moves_337, if_pos (Or.inr rfl)]
      · have no : ¬ wnr K R C lg m sw lo = iN ∨ m ≠ 1 := by
          by_cases z : wnr K R C lg m sw lo = iN
          · exact Or.inr (fun y => q ⟨z, y⟩)
          · exact Or.inl z
        obtain ⟨e', I', J', A', B', r1, r2, r3, r4, r5⟩ := both_of (bo_swap_no hb no 0 0 0 0) (CSd.lowP _ _ _ _ _ _ _ _ _ _ _ _ _ _ _ _ _ _ _ _ _ _ _) (CSd.lowP _ _ _ _ _ _ _ _ _ _ _ _ _ _ _ _ _ _ _ _ _ _ _) e I J A B h1 h2
        refine ⟨e', I', J', A', B', ?_, RWd.rx _ _ _ _ ⟨r2, r3, hD.co r4, hb⟩, by omega⟩
        have fin : mm_run (mm_pr tb_L_moves) (250, [some (.ref 0), some (.ref 39), some (.ref 78), some (.int x3), some (.int x4), some (.int (i32 how)), some (.int (i32 m)), some (.int (wnr K R C lg m sw lo)), some (.int (-2000000003 : Int32)), none, none, none], [], (79, e', mm_R0, I', J', A', B')) = some (.inl (some (.int 1)), (79, e', mm_R0, I', J', A', B')) := by
          rw [sg_L_moves_250, sg_L_moves_337, if_pos (Or.inr rfl)]
        rw [r1, mm_aft_v, sg_L_moves_229, if_pos rfl]
        by_cases m1 : i32 m = (1 : Int32)
        · have m1' : m = 1 := (i32_eq (a := m) (b := 1) (by omega) (by decide)).1 m1
          rw [if_pos m1, if_neg (show ¬ wnr K R C lg m sw lo = (-1 : Int32) from fun z => q ⟨z, m1'⟩)]
          exact fin
        · rw [if_neg m1]
          exact fin
    · -- undoing
      rw [if_neg (show ¬ i32 how < (8 : Int32) by rw [show (8 : Int32) = i32 8 from rfl, i32_lt (by omega) (by decide)]; exact q8)]
      by_cases q : m = 0 ∨ lo ≠ 0 ∨ rc = true
      · obtain ⟨e', I', J', A', B', r1, r2, r3, r4, r5⟩ := both_of (bo_undo_no hb q 0 0 0 0) (CSd.lowP _ _ _ _ _ _ _ _ _ _ _ _ _ _ _ _ _ _ _ _ _ _ _) (CSd.lowP _ _ _ _ _ _ _ _ _ _ _ _ _ _ _ _ _ _ _ _ _ _ _) e I J A B h1 h2
        refine ⟨e', I', J', A', B', ?_, RWd.rx _ _ _ _ ⟨r2, r3, hD.co r4, hb⟩, by omega⟩
        have fin : mm_run (mm_pr tb_L_moves) (368, [some (.ref 0), some (.ref 39), some (.ref 78), some (.int x3), some (.int x4), some (.int (i32 how)), some (.int (i32 m)), some (.int (wnr K R C lg m sw lo)), some (.int (-2000000003 : Int32)), none, none, none], [], (79, e', mm_R0, I', J', A', B')) = some (.inl (some (.int 1)), (79, e', mm_R0, I', J', A', B')) := by
          rw [sg_L_moves_368, sg_L_moves_409, if_pos (Or.inr rfl)]
        rw [r1, mm_aft_v, sg_L_moves_348, if_pos rfl]
        by_cases m0 : i32 m = 0
        · rw [if_pos m0]; exact fin
        · have wn : ¬ wnr K R C lg m sw lo = iN := by
            rcases q with z | z | z
            · exact absurd (by rw [z]; rfl) m0
            · exact lo_win hl z
            · exact hb.2.2.2.2.2.2.2.1 z
          rw [if_neg m0, if_neg (show ¬ wnr K R C lg m sw lo = (-1 : Int32) from wn)]
          exact fin
      · have h0 : 0 < m := Nat.pos_of_ne_zero (fun z => q (Or.inl z))
        have l0 : lo = 0 := by
          by_cases z : lo = 0
          · exact z
          · exact absurd (Or.inr (Or.inl z)) q
        have r0 : rc = false := by
          cases z : rc with
          | false => rfl
          | true => exact absurd (Or.inr (Or.inr z)) q
        subst l0
        subst r0
        obtain ⟨e', I', J', A', B', r1, r2, r3, r4, r5⟩ := both_of (bo_undo h0 0 0 0 0) (CSd.lowP _ _ _ _ _ _ _ _ _ _ _ _ _ _ _ _ _ _ _ _ _ _ _) (CSd.lowP _ _ _ _ _ _ _ _ _ _ _ _ _ _ _ _ _ _ _ _ _ _ _) e I J A B h1 h2
        have hb' := bx_undo hb h0
        have w' := hb'.1
        refine ⟨e', I', J', A', B', ?_, RWd.rx _ _ _ _ ⟨r2, r3, hD.co r4, hb'⟩, by omega⟩
        have t0' := qa_told e' I' J' A' B' r2 w' (by decide) (v := 0) (by decide)
        have t4' := qa_told e' I' J' A' B' r2 w' (by decide) (v := 4) (by decide)
        rw [td_0] at t0'
        rw [td_4, wnr_undo hb.2.2.2.2.2.1 h0] at t4'
        have bn := big_ne (a := m - 1) (by omega)
        rw [r1, mm_aft_v, sg_L_moves_348, if_neg bn.2.1, if_pos (show i32 (m - 1) = i32 m - (1 : Int32) from (i32_sub (a := m) (b := 1) h0).symm), show (0 : Int32) = i32 0 from rfl, t0', mm_aft_v, sg_L_moves_390, if_pos rfl, show (4 : Int32) = i32 4 from rfl, t4', mm_aft_v, sg_L_moves_400, if_pos (show iN = (-1 : Int32) from rfl), sg_L_moves_409, if_pos (Or.inr rfl)]
end
