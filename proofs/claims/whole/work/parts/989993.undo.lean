/-! undo: both sides -/
def swB (sw : Bool) (m : Nat) : Bool := sw && Nat.blt 1 (m - 1)
theorem swB_cases {sw : Bool} {m : Nat} (h : sw = true → 2 ≤ m) (h0 : 0 < m) : (sw = true ∧ m = 2 ∧ swB sw m = false) ∨ (swB sw m = sw ∧ kf (swB sw m) (m - 1) = kf sw m ∧ (sw = true → 3 ≤ m)) := by
  cases sw with
  | false => exact Or.inr ⟨rfl, rfl, fun z => by cases z⟩
  | true =>
    have h2 := h rfl
    by_cases q : m = 2
    · subst q; exact Or.inl ⟨rfl, rfl, rfl⟩
    · have b1 : Nat.blt 1 (m - 1) = true := by rw [Nat.blt_eq]; omega
      have b2 : Nat.blt 1 m = true := by rw [Nat.blt_eq]; omega
      refine Or.inr ⟨?_, ?_, fun _ => by omega⟩
      · unfold swB; rw [b1]; rfl
      · unfold swB kf; rw [b1, b2]; rfl
theorem WG.undo {K R C : Nat} {lg : Nat → Nat} {m : Nat} {sw : Bool} (w : WG K R C lg m sw) (h0 : 0 < m) : WG K R C lg (m - 1) (swB sw m) := by
  refine ⟨w.1, fun i hi => w.2.1 i (by omega), fun i j h1 h2 h3 => ?_, fun z => ?_⟩
  · rcases swB_cases w.2.2.2 h0 with ⟨a, b, c⟩ | ⟨a, b, c⟩
    · omega
    · rw [b] at h1
      exact w.2.2.1 i j h1 h2 (by omega)
  · rcases swB_cases w.2.2.2 h0 with ⟨a, b, c⟩ | ⟨a, b, c⟩
    · rw [c] at z; cases z
    · rw [a] at z; have := c z; omega
section
variable {K R C : Nat} {lg : Nat → Nat} {m : Nat} {sw : Bool} {ea : Nat} {tk : Bool} {se pe us : Nat → Nat} {lo : Nat} {rc : Bool} (e : Nat) (I : Nat → Nat → Int32) (J : Nat → Nat → Int64) (A : Nat → Nat → Int32) (B : Nat → Nat → Int64)
theorem cC_undo_no (h : CG K R C lg m sw I J A B) (t : TC ea tk se pe us lo I A) (hl : lo ≤ 2) (hr : I 0 9 = bi rc) (no : m = 0 ∨ lo ≠ 0 ∨ rc = true) : f_X10_undo [.ref 0] (65, e, mm_R0, I, J, A, B) = some (.inr 3, (65, e + 1, mm_R0, I, J, A, B)) := by
  have hm := h.2.1.2.2.1
  rw [en_X10_undo, sg_X10_undo_0, h.2.1.1, t.2.2.1, hr, sg_X10_undo_28]
  by_cases q : m = 0
  · rw [if_pos (show i32 m = 0 by rw [q]; rfl)]
  · rw [if_neg (show ¬ i32 m = 0 by rw [show (0 : Int32) = i32 0 from rfl, i32_eq (by omega) (by decide)]; exact q)]
    by_cases y : lo = 0
    · rw [if_pos y, if_pos (show iN = (-1 : Int32) from rfl), (no.resolve_left q).resolve_left (fun z => z y), if_neg (show ¬ bi true = 0 by decide)]
    · rw [if_neg y, if_neg (show ¬ i32 (lo - 1) = (-1 : Int32) from fun z => (iN_ne (a := lo - 1) (by omega)).1 z)]
theorem cC_undo (h : CG K R C lg m sw I J A B) (t : TC ea tk se pe us 0 I A) (hr : I 0 9 = bi false) (h0 : 0 < m) : ∃ I' J', f_X10_undo [.ref 0] (65, e, mm_R0, I, J, A, B) = some (.inl (some (.int (i32 (m - 1)))), (65, e, mm_R0, I', J', A, B)) ∧ CG K R C lg (m - 1) (swB sw m) I' J' A B ∧ FV I I' J J' A A := by
  have hm := h.2.1.2.2.1
  have tb := sp_takeBack 56 mm_R0 e I J A B h.1 h.2.1 h0
  rw [mm_RP_0] at tb
  obtain ⟨I', hI'⟩ : ∃ I', I' = mm_up (mm_up (mm_up I 7 2 (i32 (m - 1))) 7 3 (bi (sw && Nat.blt 1 (m - 1)))) 7 6 (jnd K R C (stN lg (kf (sw && Nat.blt 1 (m - 1)) (m - 1)) 0 (m - 1)) (stN lg (kf (sw && Nat.blt 1 (m - 1)) (m - 1)) 1 (m - 1))) := ⟨_, rfl⟩
  obtain ⟨J', hJ'⟩ : ∃ J', J' = mm_up (mm_up J 7 4 (stN lg (kf (sw && Nat.blt 1 (m - 1)) (m - 1)) 0 (m - 1))) 7 5 (stN lg (kf (sw && Nat.blt 1 (m - 1)) (m - 1)) 1 (m - 1)) := ⟨_, rfl⟩
  have tb' : f_X6_takeBack [.ref 7] (65, e, mm_R0, I, J, A, B) = some (.inl none, (65, e, mm_R0, I', J', A, B)) := by rw [hI', hJ']; exact tb
  have fv : FV I I' J J' A A := ⟨fun i hi => by rw [hI', mm_up_row _ _ _ _ _ hi, mm_up_row _ _ _ _ _ hi, mm_up_row _ _ _ _ _ hi], fun i hi => by rw [hJ', mm_up_row _ _ _ _ _ hi, mm_up_row _ _ _ _ _ hi], fun _ _ _ => rfl⟩
  have i2 : I' 7 2 = i32 (m - 1) := by rw [hI', mm_up_ne2 _ _ _ _ _ _ (by decide), mm_up_ne2 _ _ _ _ _ _ (by decide), mm_up_eq]
  have pl : PL lg (m - 1) (swB sw m) I' A := ⟨i2, by rw [hI', mm_up_ne2 _ _ _ _ _ _ (by decide), mm_up_eq]; rfl, by omega, fun i hi => h.2.1.2.2.2 i (by omega)⟩
  refine ⟨I', J', ?_, h.of I J A B fv pl (by rw [hJ', mm_up_ne2 _ _ _ _ _ _ (by decide), mm_up_eq]; rfl) (by rw [hJ', mm_up_eq]; rfl) (by rw [hI', mm_up_eq]; rfl), fv⟩
  rw [en_X10_undo, sg_X10_undo_0, h.2.1.1, t.2.2.1, hr, if_neg (show ¬ i32 m = 0 by rw [show (0 : Int32) = i32 0 from rfl, i32_eq (by omega) (by decide)]; omega), if_pos rfl, if_pos (show iN = (-1 : Int32) from rfl), if_pos (show bi false = 0 from rfl), tb', mm_aft_n, sg_X10_undo_45, i2]
end
section
variable {K R C : Nat} {lg : Nat → Nat} {m : Nat} {sw : Bool} {ea : Nat} {tk : Bool} {se pe us : Nat → Nat} {lo : Nat} {rc : Bool} (k : Nat) (r : Nat → Nat → Value) (e : Nat) (I : Nat → Nat → Int32) (J : Nat → Nat → Int64) (A : Nat → Nat → Int32) (B : Nat → Nat → Int64)
theorem cM_undo_no (h : MG K R C lg m sw I A B) (t : TM ea tk se pe us lo I A) (hl : lo ≤ 2) (hr : I 39 14 = bi rc) (no : m = 0 ∨ lo ≠ 0 ∨ rc = true) : f_X11_undo [.ref 39] (k + 64, e, (mm_RM r), I, J, A, B) = some (.inl (some (.int (i32 0))), (k + 64, e, (mm_RM r), mm_up I 39 39 (i32 1), J, A, B)) := by
  have hm := h.2.1.2.2.1
  have t27 : mm_run (mm_pr tb_X11_undo) (27, [some (.ref 39)], [.ref 39], (k + 64, e, (mm_RM r), I, J, A, B)) = some (.inl (some (.int (i32 0))), (k + 64, e, (mm_RM r), mm_up I 39 39 (i32 1), J, A, B)) := by
    rw [sg_X11_undo_27, sg_X11_undo_28]
    show mm_aft _ 31 _ _ (f_X11_asks [.ref 39, .int (bi false)] _) = _
    rw [sp_Masks, mm_aft_v, sg_X11_undo_31, if_pos (show bi false = 0 from rfl)]
    rfl
  rw [en_X11_undo, sg_X11_undo_0, h.2.1.1, t.2.2.1, hr]
  by_cases q : m = 0
  · rw [if_neg (show ¬ (0 : Int32) < i32 m by rw [q]; decide)]; exact t27
  · rw [if_pos (show (0 : Int32) < i32 m from (i32_lt (a := 0) (by decide) (by omega)).2 (by omega))]
    by_cases y : lo = 0
    · rw [if_pos y, if_pos (show iN = (-1 : Int32) from rfl), (no.resolve_left q).resolve_left (fun z => z y), if_neg (show ¬ bi true = 0 by decide)]; exact t27
    · rw [if_neg y, if_neg (show ¬ i32 (2 - lo) = (-1 : Int32) from fun z => (iN_ne (a := 2 - lo) (by omega)).1 z)]; exact t27
theorem cM_undo (h : MG K R C lg m sw I A B) (w : WG K R C lg m sw) (t : TM ea tk se pe us 0 I A) (hr : I 39 14 = bi false) (h0 : 0 < m) : ∃ I' B', f_X11_undo [.ref 39] (k + 64, e, (mm_RM r), I, J, A, B) = some (.inl (some (.int (i32 (m - 1)))), (k + 64, e, (mm_RM r), I', J, A, B')) ∧ I' 39 39 = i32 0 ∧ MG K R C lg (m - 1) (swB sw m) I' A B' ∧ FU I I' A A B B' := by
  have hm := h.2.1.2.2.1
  have hG := h.fr (FM.th I J A B (i32 0))
  have kl := kf_le sw m
  have l36 := w.n36
  obtain ⟨I0, hI0⟩ : ∃ I0, I0 = mm_up I 39 39 (i32 0) := ⟨_, rfl⟩
  rw [← hI0] at hG
  have q10 : I0 39 10 = i32 m := hG.2.1.1
  have q12 : I0 39 12 = bi sw := hG.2.1.2.1
  have st : ∀ q, q < 2 → B 45 q = sN lg m sw q := fun q hq => MG.st I B h hq
  have f0 : ∀ i, i ≠ 39 → I0 i = I i := fun i hi => by rw [hI0, mm_up_row _ _ _ _ _ hi]
  have g0 : ∀ p, p ≠ 39 → I0 39 p = I 39 p := fun p hp => by rw [hI0, mm_up_ne2 _ _ _ _ _ _ hp]
  have start : f_X11_undo [.ref 39] (k + 64, e, (mm_RM r), I, J, A, B) = mm_run (mm_pr tb_X11_undo) (31, [some (.ref 39)], [.int (bi true)], (k + 64, e, (mm_RM r), I0, J, A, B)) := by
    rw [en_X11_undo, sg_X11_undo_0, h.2.1.1, t.2.2.1, hr, if_pos (show (0 : Int32) < i32 m from (i32_lt (a := 0) (by decide) (by omega)).2 h0), if_pos rfl, if_pos (show iN = (-1 : Int32) from rfl), if_pos (show bi false = 0 from rfl), sg_X11_undo_28]
    show mm_aft _ 31 _ _ (f_X11_asks [.ref 39, .int (bi true)] _) = _
    rw [sp_Masks, mm_aft_v, show bi (!true) = i32 0 from rfl, ← hI0]
  rw [start, sg_X11_undo_31, if_neg (show ¬ bi true = 0 by decide), q10, q12]
  simp only [i32_l]
  rw [i32_sub (by omega)]
  rcases swB_cases w.2.2.2 h0 with ⟨s1, s2, s3⟩ | ⟨s1, s2, s3⟩
  · subst s1
    subst s2
    obtain ⟨I', hI'⟩ : ∃ I', I' = mm_up (mm_up I0 39 10 (i32 1)) 39 12 (i32 0) := ⟨_, rfl⟩
    obtain ⟨B', hB'⟩ : ∃ B', B' = mm_up (mm_up B 45 0 (mbit (lg 0))) 45 1 (0 : Int64) := ⟨_, rfl⟩
    have fu : FU I I' A A B B' := ⟨fun i hi => by rw [hI', mm_up_row _ _ _ _ _ hi, mm_up_row _ _ _ _ _ hi, f0 i hi], fun p h1 h2 h3 => by rw [hI', mm_up_ne2 _ _ _ _ _ _ h2, mm_up_ne2 _ _ _ _ _ _ h1, g0 p h3], fun _ _ _ => rfl, fun i hi => by rw [hB', mm_up_row _ _ _ _ _ hi, mm_up_row _ _ _ _ _ hi]⟩
    have i10 : I' 39 10 = i32 1 := by rw [hI', mm_up_ne2 _ _ _ _ _ _ (by decide), mm_up_eq]
    have e0 : stN lg 0 0 1 = mbit (lg 0) := by
      apply mb_ext
      intro c hc
      have hl : ∀ i, i < 1 → lg i < 64 := fun i hi => by have := l36 i (by omega); omega
      rw [mb_bit _ _ (hl 0 (by decide))]
      have a := mb_stN lg 0 0 c 1 hl
      by_cases y : lg 0 = c
      · rw [decide_eq_true y]; exact a.2 ⟨0, by decide, by decide, rfl, y⟩
      · rw [decide_eq_false y]
        refine bool_f (fun z => ?_)
        obtain ⟨i, i1, _, _, i4⟩ := a.1 z
        exact y (by rw [← i4, show i = 0 by omega])
    have e1 : stN lg 0 1 1 = 0 := by
      apply mb_ext
      intro c hc
      have hl : ∀ i, i < 1 → lg i < 64 := fun i hi => by have := l36 i (by omega); omega
      rw [mb_zero]
      refine bool_f (fun z => ?_)
      obtain ⟨i, i1, _, i3, _⟩ := (mb_stN lg 0 1 c 1 hl).1 z
      omega
    have rl : RLg lg (2 - 1) (swB true 2) I' A := ⟨i10, by rw [hI', mm_up_eq]; rfl, by decide, fun i hi => h.2.1.2.2.2 i (by omega)⟩
    refine ⟨I', B', ?_, by rw [hI', mm_up_ne2 _ _ _ _ _ _ (by decide), mm_up_ne2 _ _ _ _ _ _ (by decide), hI0, mm_up_eq], h.of I A B fu rl ?_ ?_, fu⟩
    · rw [if_pos rfl, if_neg (show ¬ bi true = i32 0 by decide), show (i32 0).toInt.toNat = 0 from rfl, h.2.1.2.2.2 0 (by decide), sp_Mbit, mm_aft_v, sg_X11_undo_80, if_pos (show 0 ≤ (i32 0).toInt ∧ (i32 0).toInt < 2 by decide), show (i32 0).toInt.toNat = 0 from rfl, show ((1 : Int32)).toInt.toNat = 1 from rfl, sg_X11_undo_119]
      show some (Sum.inl (some (Value.int (mm_up (mm_up I0 39 10 (i32 1)) 39 12 (i32 0) 39 10))), _) = _
      rw [← hI', i10, ← hB']
    · show _ = stN lg 0 0 1
      rw [e0, hB', mm_up_ne2 _ _ _ _ _ _ (by decide), mm_up_eq]
    · show _ = stN lg 0 1 1
      rw [e1, hB', mm_up_eq]
  · obtain ⟨I', hI'⟩ : ∃ I', I' = mm_up I0 39 10 (i32 (m - 1)) := ⟨_, rfl⟩
    obtain ⟨p, hp⟩ : ∃ p, p = (m - 1) % 2 := ⟨_, rfl⟩
    have p2 : p < 2 := by omega
    obtain ⟨B', hB'⟩ : ∃ B', B' = mm_up B 45 p (sN lg m sw p &&& (mbit (lg (m - 1)) ^^^ (-1))) := ⟨_, rfl⟩
    have fu : FU I I' A A B B' := ⟨fun i hi => by rw [hI', mm_up_row _ _ _ _ _ hi, f0 i hi], fun q h1 _ h3 => by rw [hI', mm_up_ne2 _ _ _ _ _ _ h1, g0 q h3], fun _ _ _ => rfl, fun i hi => by rw [hB', mm_up_row _ _ _ _ _ hi]⟩
    have i10 : I' 39 10 = i32 (m - 1) := by rw [hI', mm_up_eq]
    have rl : RLg lg (m - 1) (swB sw m) I' A := ⟨i10, by rw [hI', mm_up_ne2 _ _ _ _ _ _ (by decide), q12, s1], by omega, fun i hi => h.2.1.2.2.2 i (by omega)⟩
    have m1 : m - 1 + 1 = m := by omega
    have kfm : kf sw m ≤ m - 1 := by
      cases sw with
      | false => exact Nat.zero_le _
      | true => have := s3 rfl; omega
    have hB : ∀ q, q < 2 → B' 45 q = sN lg (m - 1) (swB sw m) q := by
      intro q hq
      show _ = stN lg (kf (swB sw m) (m - 1)) q (m - 1)
      rw [s2, hB']
      by_cases y : q = p
      · subst y
        rw [mm_up_eq]
        have bk := stN_back lg (kf sw m) q (m - 1) (fun i hi => by have := l36 i (by omega); omega) (by rw [m1]; exact w.2.2.1) kfm hp.symm
        rw [m1] at bk
        exact bk
      · rw [mm_up_ne2 _ _ _ _ _ _ y, st q hq]
        have sk := stN_skip lg (kf sw m) q (m - 1) (fun z => y (by omega))
        rw [m1] at sk
        exact sk
    have cin : (0 ≤ (i32 p).toInt ∧ (i32 p).toInt < 2) := (i32_in (by omega)).2 (by omega)
    have ix : (i32 p).toInt.toNat = p := i32_ix (by omega)
    have t91 : mm_run (mm_pr tb_X11_undo) (91, [some (.ref 39)], [], (k + 64, e, (mm_RM r), I', J, A, B)) = some (.inl (some (.int (i32 (m - 1)))), (k + 64, e, (mm_RM r), I', J, A, B')) := by
      rw [sg_X11_undo_91, sp_Mturn k r e I' J A B i10 (by omega), mm_aft_v, ← hp, sg_X11_undo_99, if_pos cin, ix, i10, if_pos ((i32_in (by omega)).2 (by omega)), i32_ix (by omega), h.2.1.2.2.2 (m - 1) (by omega), sp_Mbit, mm_aft_v, sg_X11_undo_113, if_pos cin, ix, st p p2, ← hB', sg_X11_undo_119, i10]
    refine ⟨I', B', ?_, by rw [hI', mm_up_ne2 _ _ _ _ _ _ (by decide), hI0, mm_up_eq], h.of I A B fu rl (hB 0 (by decide)) (hB 1 (by decide)), fu⟩
    by_cases y : m - 1 = 1
    · have sf : sw = false := by
        cases sw with
        | false => rfl
        | true => have := s3 rfl; omega
      rw [if_pos (show i32 (m - 1) = i32 1 by rw [y]), if_pos (show bi sw = i32 0 by rw [sf]; rfl), ← hI']
      exact t91
    · rw [if_neg (show ¬ i32 (m - 1) = i32 1 from fun z => y ((i32_eq (by omega) (by decide)).1 z)), ← hI']
      exact t91
end
