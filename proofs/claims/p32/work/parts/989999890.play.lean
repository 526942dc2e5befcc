/-! the law's best play -/
theorem si_1 (x : Int) : si x + (1 : Int32) = si (x + 1) := by
  rw [show (1 : Int32) = si 1 from rfl, si_add]
section
variable {K R C : Nat} {lg : Nat → Nat} {m : Nat} {sw : Bool} {ea : Nat} {tk : Bool} {se pe us : Nat → Nat} {lo : Nat} {rc : Bool} {t : Nat} {tp : Nat → Nat} {pn : Nat} {ln : Nat → Nat} {tx : Nat → Nat → Nat} {n : Nat} {ra : Nat → Int} {pl wo ls : Nat → Nat} {c : Nat}
/-- one move tried, and taken back -/
theorem play_one (e : Nat) (I : Nat → Nat → Int32) (J : Nat → Nat → Int64) (A : Nat → Nat → Int32) (B : Nat → Nat → Int64) (h : RWd K R C lg m sw ea tk se pe us 0 false t tp pn ln tx n ra pl wo ls c I J A B) {f k : Nat} (f8 : f ≤ 8) (hf : gn (emp (bN K R C) (sN lg m sw 0) (sN lg m sw 1)) = f + 1) (hj : nj K R C (sN lg m sw 0) (sN lg m sw 1)) (hw : wnr K R C lg m sw 0 = iN) (hus : us (m % 2) = 0) (hE : mb (emp (bN K R C) (sN lg m sw 0) (sN lg m sw 1)) k = true) (o13 : Option Value) : ∃ e' I' J' A' B' o13', mm_run (mm_pr tb_L_plays) (245, [some (.ref 0), some (.ref 78), some (.int (i32 (gn (emp (bN K R C) (sN lg m sw 0) (sN lg m sw 1))))), some (.int (i32 (bestV K R C (sN lg m sw 0) (sN lg m sw 1) (m % 2)))), some (.int (si (lastV K R C (sN lg m sw 0) (sN lg m sw 1) (m % 2)))), some (.long (winV K R C (sN lg m sw 0) (sN lg m sw 1) (m % 2))), none, some (.int (i32 (m % 2))), some (.int (1 : Int32)), some (.int (1 : Int32)), some (.int (si (fwV K R C (sN lg m sw 0) (sN lg m sw 1) (m % 2) f k))), some (.int (si (moV K R C (sN lg m sw 0) (sN lg m sw 1) (m % 2) f k))), some (.int (i32 k)), o13], [], (79, e, mm_R0, I, J, A, B)) = mm_run (mm_pr tb_L_plays) (245, [some (.ref 0), some (.ref 78), some (.int (i32 (gn (emp (bN K R C) (sN lg m sw 0) (sN lg m sw 1))))), some (.int (i32 (bestV K R C (sN lg m sw 0) (sN lg m sw 1) (m % 2)))), some (.int (si (lastV K R C (sN lg m sw 0) (sN lg m sw 1) (m % 2)))), some (.long (winV K R C (sN lg m sw 0) (sN lg m sw 1) (m % 2))), none, some (.int (i32 (m % 2))), some (.int (1 : Int32)), some (.int (1 : Int32)), some (.int (si (fwV K R C (sN lg m sw 0) (sN lg m sw 1) (m % 2) f (k + 1)))), some (.int (si (moV K R C (sN lg m sw 0) (sN lg m sw 1) (m % 2) f (k + 1)))), some (.int (i32 (k + 1))), o13'], [], (79, e', mm_R0, I', J', A', B')) ∧ RWd K R C lg m sw ea tk se pe us 0 false t tp pn ln tx n ra pl wo ls c I' J' A' B' ∧ e' ≤ e + 6 := by
  have hb := h.2.2.2
  have hD := h.2.2.1
  have w := hb.1
  have v := w.1
  have bl := bN_le v
  have ml := m_le w
  obtain ⟨w', m37, kN⟩ := w.put hE
  have tm : m % 2 < 2 := Nat.mod_lt _ (by decide)
  have tm1 : (m + 1) % 2 = 1 - m % 2 := by omega
  have hN : A 78 ((0 : Int32)).toInt.toNat = i32 (bN K R C) := hD.1
  obtain ⟨pt1, pt2, pt3⟩ := emp_pt bl tm hE
  have gf : gn (emp (bN K R C) (pt (m % 2) 0 k (sN lg m sw 0)) (pt (m % 2) 1 k (sN lg m sw 1))) = f := by omega
  have p0 : ∀ p, sN (lgp lg m k) (m + 1) sw p = pt (m % 2) p k (sN lg m sw p) := fun p => sN_put w.2.2.2
  have gf' : gn (emp (bN K R C) (sN (lgp lg m k) (m + 1) sw 0) (sN (lgp lg m k) (m + 1) sw 1)) = f := by rw [p0, p0]; exact gf
  have win := winV_mem (tu := m % 2) v hj hf hE
  obtain ⟨bb1, bb2⟩ := best_behind (c := k) tm hj (by omega) gf
  have bb1' : bestV K R C (sN (lgp lg m k) (m + 1) sw 0) (sN (lgp lg m k) (m + 1) sw 1) ((m + 1) % 2) = m % 2 ↔ 0 < (bvV K R C (sN lg m sw 0) (sN lg m sw 1) (m % 2) f k) := by rw [p0, p0, tm1]; exact bb1
  have bb2' : lastV K R C (sN (lgp lg m k) (m + 1) sw 0) (sN (lgp lg m k) (m + 1) sw 1) ((m + 1) % 2) = (if 0 < (bvV K R C (sN lg m sw 0) (sN lg m sw 1) (m % 2) f k) then 99 - (bvV K R C (sN lg m sw 0) (sN lg m sw 1) (m % 2) f k) else 99 + (bvV K R C (sN lg m sw 0) (sN lg m sw 1) (m % 2) f k)) := by rw [p0, p0, tm1]; exact bb2
  have bd := bv_bd (K := K) (R := R) (C := C) (sN lg m sw 0) (sN lg m sw 1) (m % 2) f k
  have fb := (fw_spec (K := K) (R := R) (C := C) (sN lg m sw 0) (sN lg m sw 1) (m % 2) f k).2.2
  have mb' := (mo_spec (K := K) (R := R) (C := C) (sN lg m sw 0) (sN lg m sw 1) (m % 2) f k).2.2
  have ce : ∀ (e : Nat) (I : Nat → Nat → Int32) (J : Nat → Nat → Int64) (A : Nat → Nat → Int32) (B : Nat → Nat → Int64), CSd K R C lg m sw ea tk se pe us 0 false t tp pn ln tx n ra pl wo ls I J A B → f_X10_cell [.ref 0, .int (i32 k), .int (0 : Int32)] (79, e, mm_R0, I, J, A, B) = some (.inl (some (.int (-1 : Int32))), (79, e, mm_R0, I, J, A, B)) := fun e I J A B cc => by
    have := qa_cell e I J A B cc w kN (v := 0) (by decide)
    rw [(cl0_iN k).2 hE] at this
    exact this
  have hh : ∀ S, f_L_has [.long (winV K R C (sN lg m sw 0) (sN lg m sw 1) (m % 2)), .int (i32 k)] S = some (.inl (some (.int (bi (mb (winV K R C (sN lg m sw 0) (sN lg m sw 1) (m % 2)) k)))), S) := fun S => lw_has S _ (by omega)
  have x13c : (wnr K R C (lgp lg m k) (m + 1) sw 0) = (-1 : Int32) ∨ (wnr K R C (lgp lg m k) (m + 1) sw 0) = i32 (m % 2) := wnr_put w hw
  -- the move
  obtain ⟨e1, I1, J1, A1, B1, r1, r2, r3, r4⟩ := cx_move (ea := ea) (tk := tk) (se := se) (pe := pe) (us := us) (rc := false) w (show 0 ≤ 2 by decide) hE hw e I J A B h.1
  -- who wins behind it, and when
  have bs : ∀ (e : Nat) (I : Nat → Nat → Int32) (J : Nat → Nat → Int64) (A : Nat → Nat → Int32) (B : Nat → Nat → Int64), CSd K R C (lgp lg m k) (m + 1) sw ea tk se pe (upN us (m % 2) 0) 0 false t tp pn ln tx n ra pl wo ls I J A B → ∃ e' I' J' A' B', f_X10_best [.ref 0] (79, e, mm_R0, I, J, A, B) = some (.inl (some (.int (i32 (bestV K R C (sN (lgp lg m k) (m + 1) sw 0) (sN (lgp lg m k) (m + 1) sw 1) ((m + 1) % 2))))), (79, e', mm_R0, I', J', A', B')) ∧ CSd K R C (lgp lg m k) (m + 1) sw ea tk se pe (upN us (m % 2) 0) 0 false t tp pn ln tx n ra pl wo ls I' J' A' B' ∧ H39 I I' J J' A A' B B' ∧ e' ≤ e + 1 := fun e I J A B cc => cx_best (by omega) e I J A B cc
  have ls' : ∀ (e : Nat) (I : Nat → Nat → Int32) (J : Nat → Nat → Int64) (A : Nat → Nat → Int32) (B : Nat → Nat → Int64), CSd K R C (lgp lg m k) (m + 1) sw ea tk se pe (upN us (m % 2) 0) 0 false t tp pn ln tx n ra pl wo ls I J A B → ∃ e' I' J' A' B', f_X10_lasts [.ref 0] (79, e, mm_R0, I, J, A, B) = some (.inl (some (.int (si (if 0 < (bvV K R C (sN lg m sw 0) (sN lg m sw 1) (m % 2) f k) then 99 - (bvV K R C (sN lg m sw 0) (sN lg m sw 1) (m % 2) f k) else 99 + (bvV K R C (sN lg m sw 0) (sN lg m sw 1) (m % 2) f k))))), (79, e', mm_R0, I', J', A', B')) ∧ CSd K R C (lgp lg m k) (m + 1) sw ea tk se pe (upN us (m % 2) 0) 0 false t tp pn ln tx n ra pl wo ls I' J' A' B' ∧ H39 I I' J J' A A' B B' ∧ e' ≤ e + 1 := fun e I J A B cc => by
    have q := cx_lasts (m := m + 1) (lg := lgp lg m k) (K := K) (R := R) (C := C) (sw := sw) (by omega) e I J A B cc
    rw [bb2'] at q
    exact q
  -- the move taken back
  have tail : ∀ (e : Nat) (I2 : Nat → Nat → Int32) (J2 : Nat → Nat → Int64) (A2 : Nat → Nat → Int32) (B2 : Nat → Nat → Int64), CSd K R C (lgp lg m k) (m + 1) sw ea tk se pe (upN us (m % 2) 0) 0 false t tp pn ln tx n ra pl wo ls I2 J2 A2 B2 → H39 I I2 J J2 A A2 B B2 → ∀ x10 x11 y : Int32, ∃ e' I' J' A' B', mm_run (mm_pr tb_L_plays) (392, [some (.ref 0), some (.ref 78), some (.int (i32 (gn (emp (bN K R C) (sN lg m sw 0) (sN lg m sw 1))))), some (.int (i32 (bestV K R C (sN lg m sw 0) (sN lg m sw 1) (m % 2)))), some (.int (si (lastV K R C (sN lg m sw 0) (sN lg m sw 1) (m % 2)))), some (.long (winV K R C (sN lg m sw 0) (sN lg m sw 1) (m % 2))), none, some (.int (i32 (m % 2))), some (.int (1 : Int32)), some (.int (1 : Int32)), some (.int x10), some (.int x11), some (.int (i32 k)), some (.int (wnr K R C (lgp lg m k) (m + 1) sw 0))], [.int y], (79, e, mm_R0, I2, J2, A2, B2)) = mm_run (mm_pr tb_L_plays) (245, [some (.ref 0), some (.ref 78), some (.int (i32 (gn (emp (bN K R C) (sN lg m sw 0) (sN lg m sw 1))))), some (.int (i32 (bestV K R C (sN lg m sw 0) (sN lg m sw 1) (m % 2)))), some (.int (si (lastV K R C (sN lg m sw 0) (sN lg m sw 1) (m % 2)))), some (.long (winV K R C (sN lg m sw 0) (sN lg m sw 1) (m % 2))), none, some (.int (i32 (m % 2))), some (.int (1 : Int32)), some (.int (1 : Int32)), some (.int x10), some (.int y), some (.int (i32 (k + 1))), some (.int (wnr K R C (lgp lg m k) (m + 1) sw 0))], [], (79, e', mm_R0, I', J', A', B')) ∧ RWd K R C lg m sw ea tk se pe us 0 false t tp pn ln tx n ra pl wo ls c I' J' A' B' ∧ e' ≤ e + 2 := by
    intro e I2 J2 A2 B2 cc hf2 x10 x11 y
    have t0 := qa_told e I2 J2 A2 B2 cc w' (show 0 ≤ 2 by decide) (v := 0) (by decide)
    rw [td_0] at t0
    have aq : ∀ p, aS (lgp lg m k) sw m p = sN lg m sw p := fun p => aS_lgp (Nat.le_refl m)
    have gv := cx_gave (k := m) (ea := ea) (tk := tk) (se := se) (pe := pe) (us := upN us (m % 2) 0) (lo := 0) (rc := false) (t := t) (tp := tp) (pn := pn) (ln := ln) (tx := tx) (n := n) (ra := ra) (pl := pl) (wo := wo) (ls := ls) w' (by omega) (by rintro ⟨z1, z2⟩; have := w.2.2.2 z1; omega) (by rw [aq, aq]; omega)
    obtain ⟨e3, I3, J3, A3, B3, g1, g2, g3, g4⟩ := gv e I2 J2 A2 B2 cc
    have gvv : gvV K R C (lgp lg m k) sw m = (decide ((bestV K R C (sN lg m sw 0) (sN lg m sw 1) (m % 2)) = m % 2) && !decide (0 < (bvV K R C (sN lg m sw 0) (sN lg m sw 1) (m % 2) f k))) := by
      unfold gvV
      rw [aq, aq, show aS (lgp lg m k) sw (m + 1) 0 = pt (m % 2) 0 k (sN lg m sw 0) from p0 0, show aS (lgp lg m k) sw (m + 1) 1 = pt (m % 2) 1 k (sN lg m sw 1) from p0 1]
      congr 2
      rw [decide_eq_decide]
      exact bb1
    obtain ⟨e4, I4, J4, A4, B4, u1, u2, u3, u4⟩ := cx_undo (show 0 < m + 1 by omega) e3 I3 J3 A3 B3 g2
    have sb : swB sw (m + 1) = sw := by
      unfold swB
      cases z : sw with
      | false => rfl
      | true =>
        have := w.2.2.2 z
        show Nat.blt 1 m = true
        rw [Nat.blt_eq]; omega
    have ub : upN us (m % 2) 0 = us := by
      funext q
      unfold upN
      by_cases z : q = m % 2
      · rw [if_pos z, z, hus]
      · rw [if_neg z]
    rw [sb, ub, Nat.add_sub_cancel] at u2
    rw [Nat.add_sub_cancel] at u1
    have c4 : CSd K R C lg m sw ea tk se pe us 0 false t tp pn ln tx n ra pl wo ls I4 J4 A4 B4 := u2.lgc (fun i hi => by unfold lgp; rw [if_neg (by omega)])
    have f4 : H39 I I4 J J4 A A4 B B4 := (hf2.tr g3).tr u3
    have W : RWd K R C lg m sw ea tk se pe us 0 false t tp pn ln tx n ra pl wo ls c I4 J4 A4 B4 := h.one c4 f4
    refine ⟨e4, I4, J4, A4, B4, ?_, W, by omega⟩
    have t0' := qa_told e4 I4 J4 A4 B4 c4 w (show 0 ≤ 2 by decide) (v := 0) (by decide)
    rw [td_0] at t0'
    have fin : mm_run (mm_pr tb_L_plays) (431, [some (.ref 0), some (.ref 78), some (.int (i32 (gn (emp (bN K R C) (sN lg m sw 0) (sN lg m sw 1))))), some (.int (i32 (bestV K R C (sN lg m sw 0) (sN lg m sw 1) (m % 2)))), some (.int (si (lastV K R C (sN lg m sw 0) (sN lg m sw 1) (m % 2)))), some (.long (winV K R C (sN lg m sw 0) (sN lg m sw 1) (m % 2))), none, some (.int (i32 (m % 2))), some (.int (1 : Int32)), some (.int (1 : Int32)), some (.int x10), some (.int y), some (.int (i32 k)), some (.int (wnr K R C (lgp lg m k) (m + 1) sw 0))], [.int (bi (gvV K R C (lgp lg m k) sw m)), .int (bi (gvV K R C (lgp lg m k) sw m))], (79, e3, mm_R0, I3, J3, A3, B3)) = mm_run (mm_pr tb_L_plays) (245, [some (.ref 0), some (.ref 78), some (.int (i32 (gn (emp (bN K R C) (sN lg m sw 0) (sN lg m sw 1))))), some (.int (i32 (bestV K R C (sN lg m sw 0) (sN lg m sw 1) (m % 2)))), some (.int (si (lastV K R C (sN lg m sw 0) (sN lg m sw 1) (m % 2)))), some (.long (winV K R C (sN lg m sw 0) (sN lg m sw 1) (m % 2))), none, some (.int (i32 (m % 2))), some (.int (1 : Int32)), some (.int (1 : Int32)), some (.int x10), some (.int y), some (.int (i32 (k + 1))), some (.int (wnr K R C (lgp lg m k) (m + 1) sw 0))], [], (79, e4, mm_R0, I4, J4, A4, B4)) := by
      rw [sg_L_plays_431, if_pos rfl, u1, mm_aft_v, sg_L_plays_438, show (0 : Int32) = i32 0 from rfl, t0', mm_aft_v, sg_L_plays_443, if_pos rfl, ce e4 I4 J4 A4 B4 c4, mm_aft_v, sg_L_plays_453, if_pos rfl, sg_L_plays_462, sg_L_plays_464, show i32 k + (1 : Int32) = i32 (k + 1) from i32_add k 1]
    rw [sg_L_plays_392, if_neg (show ¬ (1 : Int32) = 0 by decide), show (0 : Int32) = i32 0 from rfl, t0, mm_aft_v, sg_L_plays_405, show i32 (m + 1) - (1 : Int32) = i32 m by rw [show (1 : Int32) = i32 1 from rfl, i32_sub (by omega)]; rfl, g1, mm_aft_v, sg_L_plays_410]
    have b2 : (bestV K R C (sN lg m sw 0) (sN lg m sw 1) (m % 2)) < 2 := bestV_lt tm
    by_cases q : (bestV K R C (sN lg m sw 0) (sN lg m sw 1) (m % 2)) = m % 2
    · rw [if_pos (show i32 (bestV K R C (sN lg m sw 0) (sN lg m sw 1) (m % 2)) = i32 (m % 2) by rw [q]), hh, mm_aft_v, sg_L_plays_423]
      by_cases q2 : 0 < (bvV K R C (sN lg m sw 0) (sN lg m sw 1) (m % 2) f k)
      · have gz : gvV K R C (lgp lg m k) sw m = false := by
          rw [gvv, decide_eq_true q2]; exact Bool.and_false _
        rw [win.2 q2, if_neg (show ¬ bi true = (0 : Int32) by decide), sg_L_plays_430]
        rw [gz] at fin ⊢
        exact fin
      · have gz : gvV K R C (lgp lg m k) sw m = true := by
          rw [gvv, decide_eq_false q2, decide_eq_true q]; rfl
        rw [bool_f (fun z => q2 (win.1 z)), if_pos (show bi false = (0 : Int32) from rfl)]
        rw [gz] at fin ⊢
        exact fin
    · have gz : gvV K R C (lgp lg m k) sw m = false := by
        rw [gvv, decide_eq_false q]; rfl
      rw [if_neg (show ¬ i32 (bestV K R C (sN lg m sw 0) (sN lg m sw 1) (m % 2)) = i32 (m % 2) from fun z => q ((i32_eq (by omega) (by omega)).1 z)), sg_L_plays_430]
      rw [gz] at fin ⊢
      exact fin
  -- the answer behind it
  obtain ⟨e2, I2, J2, A2, B2, s1, s2, s3, s4⟩ := bs e1 I1 J1 A1 B1 r2
  have b2 : bestV K R C (sN (lgp lg m k) (m + 1) sw 0) (sN (lgp lg m k) (m + 1) sw 1) ((m + 1) % 2) < 2 := bestV_lt (by omega)
  have st : mm_run (mm_pr tb_L_plays) (245, [some (.ref 0), some (.ref 78), some (.int (i32 (gn (emp (bN K R C) (sN lg m sw 0) (sN lg m sw 1))))), some (.int (i32 (bestV K R C (sN lg m sw 0) (sN lg m sw 1) (m % 2)))), some (.int (si (lastV K R C (sN lg m sw 0) (sN lg m sw 1) (m % 2)))), some (.long (winV K R C (sN lg m sw 0) (sN lg m sw 1) (m % 2))), none, some (.int (i32 (m % 2))), some (.int (1 : Int32)), some (.int (1 : Int32)), some (.int (si (fwV K R C (sN lg m sw 0) (sN lg m sw 1) (m % 2) f k))), some (.int (si (moV K R C (sN lg m sw 0) (sN lg m sw 1) (m % 2) f k))), some (.int (i32 k)), o13], [], (79, e, mm_R0, I, J, A, B)) = mm_run (mm_pr tb_L_plays) (333, [some (.ref 0), some (.ref 78), some (.int (i32 (gn (emp (bN K R C) (sN lg m sw 0) (sN lg m sw 1))))), some (.int (i32 (bestV K R C (sN lg m sw 0) (sN lg m sw 1) (m % 2)))), some (.int (si (lastV K R C (sN lg m sw 0) (sN lg m sw 1) (m % 2)))), some (.long (winV K R C (sN lg m sw 0) (sN lg m sw 1) (m % 2))), none, some (.int (i32 (m % 2))), some (.int (1 : Int32)), some (.int (1 : Int32)), some (.int (si (fwV K R C (sN lg m sw 0) (sN lg m sw 1) (m % 2) f k))), some (.int (si (moV K R C (sN lg m sw 0) (sN lg m sw 1) (m % 2) f k))), some (.int (i32 k)), some (.int (wnr K R C (lgp lg m k) (m + 1) sw 0))], [.int (bi (mb (winV K R C (sN lg m sw 0) (sN lg m sw 1) (m % 2)) k))], (79, e2, mm_R0, I2, J2, A2, B2)) := by
    have s319 : mm_run (mm_pr tb_L_plays) (319, [some (.ref 0), some (.ref 78), some (.int (i32 (gn (emp (bN K R C) (sN lg m sw 0) (sN lg m sw 1))))), some (.int (i32 (bestV K R C (sN lg m sw 0) (sN lg m sw 1) (m % 2)))), some (.int (si (lastV K R C (sN lg m sw 0) (sN lg m sw 1) (m % 2)))), some (.long (winV K R C (sN lg m sw 0) (sN lg m sw 1) (m % 2))), none, some (.int (i32 (m % 2))), some (.int (1 : Int32)), some (.int (1 : Int32)), some (.int (si (fwV K R C (sN lg m sw 0) (sN lg m sw 1) (m % 2) f k))), some (.int (si (moV K R C (sN lg m sw 0) (sN lg m sw 1) (m % 2) f k))), some (.int (i32 k)), some (.int (wnr K R C (lgp lg m k) (m + 1) sw 0))], [], (79, e2, mm_R0, I2, J2, A2, B2)) = mm_run (mm_pr tb_L_plays) (333, [some (.ref 0), some (.ref 78), some (.int (i32 (gn (emp (bN K R C) (sN lg m sw 0) (sN lg m sw 1))))), some (.int (i32 (bestV K R C (sN lg m sw 0) (sN lg m sw 1) (m % 2)))), some (.int (si (lastV K R C (sN lg m sw 0) (sN lg m sw 1) (m % 2)))), some (.long (winV K R C (sN lg m sw 0) (sN lg m sw 1) (m % 2))), none, some (.int (i32 (m % 2))), some (.int (1 : Int32)), some (.int (1 : Int32)), some (.int (si (fwV K R C (sN lg m sw 0) (sN lg m sw 1) (m % 2) f k))), some (.int (si (moV K R C (sN lg m sw 0) (sN lg m sw 1) (m % 2) f k))), some (.int (i32 k)), some (.int (wnr K R C (lgp lg m k) (m + 1) sw 0))], [.int (bi (mb (winV K R C (sN lg m sw 0) (sN lg m sw 1) (m % 2)) k))], (79, e2, mm_R0, I2, J2, A2, B2)) := by
      rw [sg_L_plays_319, sg_L_plays_324, hh, mm_aft_v]
    have s303 : ∀ y : Int32, y = bi (mb (winV K R C (sN lg m sw 0) (sN lg m sw 1) (m % 2)) k) → mm_run (mm_pr tb_L_plays) (303, [some (.ref 0), some (.ref 78), some (.int (i32 (gn (emp (bN K R C) (sN lg m sw 0) (sN lg m sw 1))))), some (.int (i32 (bestV K R C (sN lg m sw 0) (sN lg m sw 1) (m % 2)))), some (.int (si (lastV K R C (sN lg m sw 0) (sN lg m sw 1) (m % 2)))), some (.long (winV K R C (sN lg m sw 0) (sN lg m sw 1) (m % 2))), none, some (.int (i32 (m % 2))), some (.int (1 : Int32)), some (.int (1 : Int32)), some (.int (si (fwV K R C (sN lg m sw 0) (sN lg m sw 1) (m % 2) f k))), some (.int (si (moV K R C (sN lg m sw 0) (sN lg m sw 1) (m % 2) f k))), some (.int (i32 k)), some (.int (wnr K R C (lgp lg m k) (m + 1) sw 0))], [.int y, .int (bi (mb (winV K R C (sN lg m sw 0) (sN lg m sw 1) (m % 2)) k))], (79, e2, mm_R0, I2, J2, A2, B2)) = mm_run (mm_pr tb_L_plays) (333, [some (.ref 0), some (.ref 78), some (.int (i32 (gn (emp (bN K R C) (sN lg m sw 0) (sN lg m sw 1))))), some (.int (i32 (bestV K R C (sN lg m sw 0) (sN lg m sw 1) (m % 2)))), some (.int (si (lastV K R C (sN lg m sw 0) (sN lg m sw 1) (m % 2)))), some (.long (winV K R C (sN lg m sw 0) (sN lg m sw 1) (m % 2))), none, some (.int (i32 (m % 2))), some (.int (1 : Int32)), some (.int (1 : Int32)), some (.int (si (fwV K R C (sN lg m sw 0) (sN lg m sw 1) (m % 2) f k))), some (.int (si (moV K R C (sN lg m sw 0) (sN lg m sw 1) (m % 2) f k))), some (.int (i32 k)), some (.int (wnr K R C (lgp lg m k) (m + 1) sw 0))], [.int (bi (mb (winV K R C (sN lg m sw 0) (sN lg m sw 1) (m % 2)) k))], (79, e2, mm_R0, I2, J2, A2, B2)) := by
      intro y hy
      rw [sg_L_plays_303, if_pos hy.symm]
      by_cases q : (wnr K R C (lgp lg m k) (m + 1) sw 0) = (-1 : Int32)
      · rw [if_pos q]; exact s319
      · rw [if_neg q, if_pos (x13c.resolve_left q)]; exact s319
    rw [sg_L_plays_245, hN, if_pos (by rw [i32_lt (by omega) (by omega)]; exact kN), if_neg (show ¬ (1 : Int32) = 0 by decide), ce e I J A B h.1, mm_aft_v, sg_L_plays_265, if_pos rfl, if_neg (show ¬ (1 : Int32) = 0 by decide), r1, mm_aft_v, sg_L_plays_280, hh, mm_aft_v, sg_L_plays_289, s1, mm_aft_v, sg_L_plays_293]
    by_cases q2 : 0 < (bvV K R C (sN lg m sw 0) (sN lg m sw 1) (m % 2) f k)
    · rw [if_pos (show i32 _ = i32 (m % 2) by rw [bb1'.2 q2])]
      exact s303 _ (by rw [win.2 q2]; rfl)
    · rw [if_neg (show ¬ i32 _ = i32 (m % 2) from fun z => q2 (bb1'.1 ((i32_eq (by omega) (by omega)).1 z)))]
      exact s303 _ (by rw [bool_f (fun z => q2 (win.1 z))]; rfl)
  obtain ⟨e3, I3, J3, A3, B3, l1, l2, l3, l4⟩ := ls' e2 I2 J2 A2 B2 s2
  have f2 := r3.tr s3
  have f3 := f2.tr l3
  by_cases q2 : 0 < (bvV K R C (sN lg m sw 0) (sN lg m sw 1) (m % 2) f k)
  · have wt := win.2 q2
    rw [if_pos q2] at l1
    -- the later strip is untouched
    have ml : (moV K R C (sN lg m sw 0) (sN lg m sw 1) (m % 2) f (k + 1)) = (moV K R C (sN lg m sw 0) (sN lg m sw 1) (m % 2) f k) := by
      show (if _ then _ else _) = _
      rw [if_neg (fun z => z.2.1 q2)]
    have s358 : ∀ (e : Nat) (I2 : Nat → Nat → Int32) (J2 : Nat → Nat → Int64) (A2 : Nat → Nat → Int32) (B2 : Nat → Nat → Int64) (x y : Int32), mm_run (mm_pr tb_L_plays) (358, [some (.ref 0), some (.ref 78), some (.int (i32 (gn (emp (bN K R C) (sN lg m sw 0) (sN lg m sw 1))))), some (.int (i32 (bestV K R C (sN lg m sw 0) (sN lg m sw 1) (m % 2)))), some (.int (si (lastV K R C (sN lg m sw 0) (sN lg m sw 1) (m % 2)))), some (.long (winV K R C (sN lg m sw 0) (sN lg m sw 1) (m % 2))), none, some (.int (i32 (m % 2))), some (.int (1 : Int32)), some (.int (1 : Int32)), some (.int x), some (.int (si (moV K R C (sN lg m sw 0) (sN lg m sw 1) (m % 2) f k))), some (.int (i32 k)), some (.int (wnr K R C (lgp lg m k) (m + 1) sw 0))], [.int y], (79, e, mm_R0, I2, J2, A2, B2)) = mm_run (mm_pr tb_L_plays) (392, [some (.ref 0), some (.ref 78), some (.int (i32 (gn (emp (bN K R C) (sN lg m sw 0) (sN lg m sw 1))))), some (.int (i32 (bestV K R C (sN lg m sw 0) (sN lg m sw 1) (m % 2)))), some (.int (si (lastV K R C (sN lg m sw 0) (sN lg m sw 1) (m % 2)))), some (.long (winV K R C (sN lg m sw 0) (sN lg m sw 1) (m % 2))), none, some (.int (i32 (m % 2))), some (.int (1 : Int32)), some (.int (1 : Int32)), some (.int y), some (.int (si (moV K R C (sN lg m sw 0) (sN lg m sw 1) (m % 2) f k))), some (.int (i32 k)), some (.int (wnr K R C (lgp lg m k) (m + 1) sw 0))], [.int (si (moV K R C (sN lg m sw 0) (sN lg m sw 1) (m % 2) f k))], (79, e, mm_R0, I2, J2, A2, B2)) := by
      intro e I2 J2 A2 B2 x y
      rw [sg_L_plays_358, hh, mm_aft_v, sg_L_plays_367, wt, if_neg (show ¬ bi true = (0 : Int32) by decide), sg_L_plays_390]
    rw [wt, ] at st
    by_cases q3 : 100 - (bvV K R C (sN lg m sw 0) (sN lg m sw 1) (m % 2) f k) < (fwV K R C (sN lg m sw 0) (sN lg m sw 1) (m % 2) f k)
    · have fe : (fwV K R C (sN lg m sw 0) (sN lg m sw 1) (m % 2) f (k + 1)) = 100 - (bvV K R C (sN lg m sw 0) (sN lg m sw 1) (m % 2) f k) := by
        show (if _ then _ else _) = _
        rw [if_pos ⟨hE, q2, q3⟩]
      obtain ⟨e4, I4, J4, A4, B4, n1, n2, n3, n4⟩ := ls' e3 I3 J3 A3 B3 l2
      rw [if_pos q2] at n1
      obtain ⟨e', I', J', A', B', t1, t2, t3⟩ := tail e4 I4 J4 A4 B4 n2 (f3.tr n3) (si (100 - (bvV K R C (sN lg m sw 0) (sN lg m sw 1) (m % 2) f k))) (si (moV K R C (sN lg m sw 0) (sN lg m sw 1) (m % 2) f k)) (si (moV K R C (sN lg m sw 0) (sN lg m sw 1) (m % 2) f k))
      refine ⟨e', I', J', A', B', some (.int (wnr K R C (lgp lg m k) (m + 1) sw 0)), Eq.trans st ?_, t2, by omega⟩
      rw [fe, ml]
      refine Eq.trans ?_ t1
      rw [sg_L_plays_333, if_neg (show ¬ bi true = (0 : Int32) by decide), l1, mm_aft_v, sg_L_plays_340, si_1, show (99 : Int) - (bvV K R C (sN lg m sw 0) (sN lg m sw 1) (m % 2) f k) + 1 = 100 - (bvV K R C (sN lg m sw 0) (sN lg m sw 1) (m % 2) f k) by omega, if_pos ((si_ltr (by omega) (by omega) (by omega) (by omega)).2 q3), n1, mm_aft_v, sg_L_plays_351, si_1, show (99 : Int) - (bvV K R C (sN lg m sw 0) (sN lg m sw 1) (m % 2) f k) + 1 = 100 - (bvV K R C (sN lg m sw 0) (sN lg m sw 1) (m % 2) f k) by omega]
      exact s358 _ _ _ _ _ _ _
    · have fe : (fwV K R C (sN lg m sw 0) (sN lg m sw 1) (m % 2) f (k + 1)) = (fwV K R C (sN lg m sw 0) (sN lg m sw 1) (m % 2) f k) := by
        show (if _ then _ else _) = _
        rw [if_neg (fun z => q3 z.2.2)]
      obtain ⟨e', I', J', A', B', t1, t2, t3⟩ := tail e3 I3 J3 A3 B3 l2 f3 (si (fwV K R C (sN lg m sw 0) (sN lg m sw 1) (m % 2) f k)) (si (moV K R C (sN lg m sw 0) (sN lg m sw 1) (m % 2) f k)) (si (moV K R C (sN lg m sw 0) (sN lg m sw 1) (m % 2) f k))
      refine ⟨e', I', J', A', B', some (.int (wnr K R C (lgp lg m k) (m + 1) sw 0)), Eq.trans st ?_, t2, by omega⟩
      rw [fe, ml]
      refine Eq.trans ?_ t1
      rw [sg_L_plays_333, if_neg (show ¬ bi true = (0 : Int32) by decide), l1, mm_aft_v, sg_L_plays_340, si_1, show (99 : Int) - (bvV K R C (sN lg m sw 0) (sN lg m sw 1) (m % 2) f k) + 1 = 100 - (bvV K R C (sN lg m sw 0) (sN lg m sw 1) (m % 2) f k) by omega, if_neg (fun z => q3 ((si_ltr (by omega) (by omega) (by omega) (by omega)).1 z)), sg_L_plays_356]
      exact s358 _ _ _ _ _ _ _
  · have wf : mb (winV K R C (sN lg m sw 0) (sN lg m sw 1) (m % 2)) k = false := bool_f (fun z => q2 (win.1 z))
    rw [if_neg q2] at l1
    have fe : (fwV K R C (sN lg m sw 0) (sN lg m sw 1) (m % 2) f (k + 1)) = (fwV K R C (sN lg m sw 0) (sN lg m sw 1) (m % 2) f k) := by
      show (if _ then _ else _) = _
      rw [if_neg (fun z => q2 z.2.1)]
    rw [wf] at st
    have s333 : mm_run (mm_pr tb_L_plays) (333, [some (.ref 0), some (.ref 78), some (.int (i32 (gn (emp (bN K R C) (sN lg m sw 0) (sN lg m sw 1))))), some (.int (i32 (bestV K R C (sN lg m sw 0) (sN lg m sw 1) (m % 2)))), some (.int (si (lastV K R C (sN lg m sw 0) (sN lg m sw 1) (m % 2)))), some (.long (winV K R C (sN lg m sw 0) (sN lg m sw 1) (m % 2))), none, some (.int (i32 (m % 2))), some (.int (1 : Int32)), some (.int (1 : Int32)), some (.int (si (fwV K R C (sN lg m sw 0) (sN lg m sw 1) (m % 2) f k))), some (.int (si (moV K R C (sN lg m sw 0) (sN lg m sw 1) (m % 2) f k))), some (.int (i32 k)), some (.int (wnr K R C (lgp lg m k) (m + 1) sw 0))], [.int (bi false)], (79, e2, mm_R0, I2, J2, A2, B2)) = mm_aft (mm_pr tb_L_plays) 374 [some (.ref 0), some (.ref 78), some (.int (i32 (gn (emp (bN K R C) (sN lg m sw 0) (sN lg m sw 1))))), some (.int (i32 (bestV K R C (sN lg m sw 0) (sN lg m sw 1) (m % 2)))), some (.int (si (lastV K R C (sN lg m sw 0) (sN lg m sw 1) (m % 2)))), some (.long (winV K R C (sN lg m sw 0) (sN lg m sw 1) (m % 2))), none, some (.int (i32 (m % 2))), some (.int (1 : Int32)), some (.int (1 : Int32)), some (.int (si (fwV K R C (sN lg m sw 0) (sN lg m sw 1) (m % 2) f k))), some (.int (si (moV K R C (sN lg m sw 0) (sN lg m sw 1) (m % 2) f k))), some (.int (i32 k)), some (.int (wnr K R C (lgp lg m k) (m + 1) sw 0))] [] (f_X10_lasts [.ref 0] (79, e2, mm_R0, I2, J2, A2, B2)) := by
      rw [sg_L_plays_333, if_pos (show bi false = (0 : Int32) from rfl), sg_L_plays_356, sg_L_plays_358, hh, mm_aft_v, sg_L_plays_367, wf, if_pos (show bi false = (0 : Int32) from rfl)]
    by_cases q3 : (moV K R C (sN lg m sw 0) (sN lg m sw 1) (m % 2) f k) < 100 + (bvV K R C (sN lg m sw 0) (sN lg m sw 1) (m % 2) f k)
    · have me : (moV K R C (sN lg m sw 0) (sN lg m sw 1) (m % 2) f (k + 1)) = 100 + (bvV K R C (sN lg m sw 0) (sN lg m sw 1) (m % 2) f k) := by
        show (if _ then _ else _) = _
        rw [if_pos ⟨hE, q2, q3⟩]
      obtain ⟨e4, I4, J4, A4, B4, n1, n2, n3, n4⟩ := ls' e3 I3 J3 A3 B3 l2
      rw [if_neg q2] at n1
      obtain ⟨e', I', J', A', B', t1, t2, t3⟩ := tail e4 I4 J4 A4 B4 n2 (f3.tr n3) (si (fwV K R C (sN lg m sw 0) (sN lg m sw 1) (m % 2) f k)) (si (moV K R C (sN lg m sw 0) (sN lg m sw 1) (m % 2) f k)) (si (100 + (bvV K R C (sN lg m sw 0) (sN lg m sw 1) (m % 2) f k)))
      refine ⟨e', I', J', A', B', some (.int (wnr K R C (lgp lg m k) (m + 1) sw 0)), Eq.trans st (Eq.trans s333 ?_), t2, by omega⟩
      rw [fe, me]
      refine Eq.trans ?_ t1
      rw [l1, mm_aft_v, sg_L_plays_374, si_1, show (99 : Int) + (bvV K R C (sN lg m sw 0) (sN lg m sw 1) (m % 2) f k) + 1 = 100 + (bvV K R C (sN lg m sw 0) (sN lg m sw 1) (m % 2) f k) by omega, if_pos ((si_ltr (by omega) (by omega) (by omega) (by omega)).2 q3), n1, mm_aft_v, sg_L_plays_385, si_1, show (99 : Int) + (bvV K R C (sN lg m sw 0) (sN lg m sw 1) (m % 2) f k) + 1 = 100 + (bvV K R C (sN lg m sw 0) (sN lg m sw 1) (m % 2) f k) by omega]
    · have me : (moV K R C (sN lg m sw 0) (sN lg m sw 1) (m % 2) f (k + 1)) = (moV K R C (sN lg m sw 0) (sN lg m sw 1) (m % 2) f k) := by
        show (if _ then _ else _) = _
        rw [if_neg (fun z => q3 z.2.2)]
      obtain ⟨e', I', J', A', B', t1, t2, t3⟩ := tail e3 I3 J3 A3 B3 l2 f3 (si (fwV K R C (sN lg m sw 0) (sN lg m sw 1) (m % 2) f k)) (si (moV K R C (sN lg m sw 0) (sN lg m sw 1) (m % 2) f k)) (si (moV K R C (sN lg m sw 0) (sN lg m sw 1) (m % 2) f k))
      refine ⟨e', I', J', A', B', some (.int (wnr K R C (lgp lg m k) (m + 1) sw 0)), Eq.trans st (Eq.trans s333 ?_), t2, by omega⟩
      rw [fe, me]
      refine Eq.trans ?_ t1
      rw [l1, mm_aft_v, sg_L_plays_374, si_1, show (99 : Int) + (bvV K R C (sN lg m sw 0) (sN lg m sw 1) (m % 2) f k) + 1 = 100 + (bvV K R C (sN lg m sw 0) (sN lg m sw 1) (m % 2) f k) by omega, if_neg (fun z => q3 ((si_ltr (by omega) (by omega) (by omega) (by omega)).1 z)), sg_L_plays_390]
end
