/-! cell: reference -/
section
variable {K R C : Nat} {lg : Nat → Nat} {m : Nat} {sw : Bool} (k : Nat) (r : Nat → Nat → Value) (e : Nat) (I : Nat → Nat → Int32) (J : Nat → Nat → Int64) (A : Nat → Nat → Int32) (B : Nat → Nat → Int64)
theorem cM_cell_1 (h : MB K R C I A B) {x y : Int32} (hx : cellP (bN K R C) x = false) : f_X11_cell [.ref 39, .int x, .int y] (k + 64, e, (mm_RM r), I, J, A, B) = some (.inl (some (.int (i32 0))), (k + 64, e, (mm_RM r), mm_up I 39 39 (i32 1), J, A, B)) := by
  rw [en_X11_cell, sg_X11_cell_0, sp_MisCellP k r e I J B A h, mm_aft_v, hx, sg_X11_cell_6, sp_Masks, mm_aft_v, sg_X11_cell_9, if_pos (show bi false = 0 from rfl)]
  rfl
theorem cM_cell_2 (h : MB K R C I A B) {x y : Int32} (hx : cellP (bN K R C) x = true) (hy : rgP y 0 6 = false) : f_X11_cell [.ref 39, .int x, .int y] (k + 64, e, (mm_RM r), I, J, A, B) = some (.inl (some (.int (i32 0))), (k + 64, e, (mm_RM r), mm_up (mm_up I 39 39 (i32 0)) 39 39 (i32 2), J, A, B)) := by
  rw [en_X11_cell, sg_X11_cell_0, sp_MisCellP k r e I J B A h, mm_aft_v, hx, sg_X11_cell_6, sp_Masks, mm_aft_v, sg_X11_cell_9, if_neg (show ¬ bi true = 0 by decide), sp_Min, mm_aft_v]
  show mm_run _ (21, _, [.int (bi (rgP y 0 6))], _) = _
  rw [hy, sg_X11_cell_21, if_pos (show bi false = 0 from rfl), sp_Mfails, mm_aft_v, sg_X11_cell_29]
  rfl
theorem cM_cell (h0 : MG K R C lg m sw I A B) (w : WG K R C lg m sw) {c v : Nat} (hc : c < bN K R C) (hv : v ≤ 6) : f_X11_cell [.ref 39, .int (i32 c), .int (i32 v)] (k + 64, e, (mm_RM r), I, J, A, B) = some (.inl (some (.int (clV K R C lg m sw c v))), (k + 64, e, (mm_RM r), mm_up I 39 39 (i32 0), J, A, B)) := by
  have hN := bN_le w.1
  have h := h0.fr (FM.th I J A B (i32 0))
  have hy : rgP (i32 v) 0 6 = true := by
    show rgP (i32 v) (i32 0) (i32 6) = true
    rw [rg_ok (by decide) (by decide) (by omega), decide_eq_true (Nat.zero_le _), decide_eq_true hv]; rfl
  rw [en_X11_cell, sg_X11_cell_0, sp_MisCellP k r e I J B A h0.1, mm_aft_v, cellP_i hN (by omega), decide_eq_true hc, sg_X11_cell_6, sp_Masks, mm_aft_v, sg_X11_cell_9, if_neg (show ¬ bi true = 0 by decide), sp_Min, mm_aft_v]
  show mm_run _ (21, _, [.int (bi (rgP (i32 v) 0 6))], _) = _
  rw [hy, sg_X11_cell_21, if_neg (show ¬ bi true = 0 by decide), show bi (!true) = i32 0 from rfl]
  generalize mm_up I 39 39 (i32 0) = I0 at h ⊢
  rw [sp_MemptyG k r e I0 J A B h, mm_aft_v, sg_X11_cell_34, sp_Mhas _ _ (by omega), mm_aft_v, sg_X11_cell_38]
  have rc := h.1.rc c hc
  have cin : (0 ≤ (i32 c).toInt ∧ (i32 c).toInt < 36) := (i32_in (by omega)).2 (by omega)
  have ix : (i32 c).toInt.toNat = c := i32_ix (by omega)
  have b0 : B 45 0 = sN lg m sw 0 := h.2.2.1
  have b1 : B 45 1 = sN lg m sw 1 := h.2.2.2.1
  have gr : f_X11_groupOf [.ref 39, .int (i32 c)] (k + 64, e, (mm_RM r), I0, J, A, B) = some (.inl (some (.long (grC K R C lg m sw c))), (k + 64, e, (mm_RM r), I0, J, A, B)) := by
    rw [sp_MgroupOf k r e I0 J A B h.1 hc, b0, b1]
    rfl
  unfold clV
  have cs : v = 0 ∨ v = 1 ∨ v = 2 ∨ v = 3 ∨ v = 4 ∨ v = 5 ∨ v = 6 := by omega
  cases he : mb (emp (bN K R C) (sN lg m sw 0) (sN lg m sw 1)) c with
  | true =>
    rw [if_pos rfl]
    rcases cs with q | q | q | q | q | q | q <;> subst q
    · show mm_run _ (94, _, _, _) = _
      rw [sg_X11_cell_94, if_neg (show ¬ bi true = 0 by decide), sg_X11_cell_120]; rfl
    · show mm_run _ (121, _, _, _) = _
      rw [sg_X11_cell_121, if_neg (show ¬ bi true = 0 by decide), sg_X11_cell_137]; rfl
    · show mm_run _ (138, _, _, _) = _
      rw [sg_X11_cell_138, if_neg (show ¬ bi true = 0 by decide), sg_X11_cell_155]; rfl
    · show mm_run _ (156, _, _, _) = _
      rw [sg_X11_cell_156, if_neg (show ¬ bi true = 0 by decide), sg_X11_cell_172]; rfl
    · show mm_run _ (80, _, _, _) = _
      rw [sg_X11_cell_80, if_pos cin, ix, rc.1]; rfl
    · show mm_run _ (87, _, _, _) = _
      rw [sg_X11_cell_87, if_pos cin, ix, rc.2]; rfl
    · show mm_run _ (173, _, _, _) = _
      rw [sg_X11_cell_173, if_neg (show ¬ bi true = 0 by decide), sg_X11_cell_186]; rfl
  | false =>
    obtain ⟨g1, g2, g3, g4, i, g5, g6, g7, g8, g9⟩ := gr_facts w hc he
    rw [if_neg (show ¬ false = true by decide)]
    rcases cs with q | q | q | q | q | q | q <;> subst q
    · show mm_run _ (94, _, _, _) = _
      rw [sg_X11_cell_94, if_pos (show bi false = 0 from rfl), show ((0 : Int32)).toInt.toNat = 0 from rfl, b0, sp_Mhas _ _ (by omega), mm_aft_v, sg_X11_cell_112, sg_X11_cell_120, sg_X11_cell_120]
      cases mb (sN lg m sw 0) c with
      | true => rw [if_neg (show ¬ bi true = 0 by decide)]; rfl
      | false => rw [if_pos (show bi false = 0 from rfl)]; rfl
    · show mm_run _ (121, _, _, _) = _
      rw [sg_X11_cell_121, if_pos (show bi false = 0 from rfl), gr, mm_aft_v, sg_X11_cell_134, sp_Mones, mm_aft_v, sg_X11_cell_137]; rfl
    · show mm_run _ (138, _, _, _) = _
      rw [sg_X11_cell_138, if_pos (show bi false = 0 from rfl), gr, mm_aft_v, sg_X11_cell_152, sp_MsidesOf k r e I0 J A B h.1, mm_aft_v, sg_X11_cell_155]; rfl
    · show mm_run _ (156, _, _, _) = _
      rw [sg_X11_cell_156, if_pos (show bi false = 0 from rfl), gr, mm_aft_v, sg_X11_cell_169, sp_Mlowest _ _ (fun d hd => bool_f (fun z => by have := g2 d z; omega)), if_neg g4, mm_aft_v, sg_X11_cell_172]; rfl
    · show mm_run _ (80, _, _, _) = _
      rw [sg_X11_cell_80, if_pos cin, ix, rc.1]; rfl
    · show mm_run _ (87, _, _, _) = _
      rw [sg_X11_cell_87, if_pos cin, ix, rc.2]; rfl
    · have kf1 : (bif sw then 1 else 0) ≤ i := by
        cases sw with
        | false => exact Nat.zero_le _
        | true =>
          have h2 := w.2.2.2 rfl
          have : kf true m = 1 := by unfold kf; rw [show Nat.blt 1 m = true by rw [Nat.blt_eq]; omega]; rfl
          rw [this] at g5
          exact g5
      show mm_run _ (173, _, _, _) = _
      rw [sg_X11_cell_173, if_pos (show bi false = 0 from rfl), sp_MmoveOf k r e I0 J A B h.2.1 (by omega) w.n36 kf1 g6 g7 g9, mm_aft_v, sg_X11_cell_186, noV_of m g5 g6 g7 g9]; rfl
end
