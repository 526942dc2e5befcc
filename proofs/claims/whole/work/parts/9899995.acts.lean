/-! the law's calls on both sides: what changes the state -/
section
variable {K R C : Nat} {lg : Nat → Nat} {m : Nat} {sw : Bool} {ea : Nat} {tk : Bool} {se pe us : Nat → Nat} {lo : Nat} {rc : Bool} {t : Nat} {tp : Nat → Nat} {pn : Nat} {ln : Nat → Nat} {tx : Nat → Nat → Nat} {n : Nat} {ra : Nat → Int} {pl wo ls : Nat → Nat} {I : Nat → Nat → Int32} {J : Nat → Nat → Int64} {A : Nat → Nat → Int32} {B : Nat → Nat → Int64} {c e : Nat}
theorem TB.zero : TB 0 false (fun _ => 0) (fun _ => 0) (fun _ => 0) 0 := ⟨by decide, fun z => (by cases z), fun p hp => ⟨Nat.zero_le _, Nat.zero_le _, Nat.zero_le _, fun _ => Nat.zero_le _, fun z => absurd z (Nat.lt_irrefl _)⟩⟩
theorem st_game (hc : CSd K R C lg m sw ea tk se pe us lo rc t tp pn ln tx n ra pl wo ls I J A B) (hm : MSd K R C lg m sw ea tk se pe us lo rc t tp pn ln tx n ra pl wo ls I A B) (hb : BSd K R C lg m sw ea tk se pe us lo rc t tp pn ln tx n ra pl wo ls c) (hk : c < 10000) (x1 x2 x3 : Int32) : StG vI oI c e I J A B f_L_game [.ref 0, .int x1, .int x2, .int x3, .ref 64] f_X11_game [.ref 39, .int x1, .int x2, .int x3] := by
  have bn := hb.next hk
  cases q : brP x1 x2 x3 with
  | false => exact StG.no1 (v := i32 0) (kk := 1) hc hm bn (by decide) (by decide) (wL_game_x2 (cC_game_1 e I J A B q)) (by have hz := cM_game_1 1 mm_R0 (e + 1) I J A B q; rw [mm_RM_0] at hz; exact hz)
  | true =>
    obtain ⟨K', R', C', v, rfl, rfl, rfl⟩ := br_cases q
    obtain ⟨g, tc, r, y, p, u, l⟩ := hc
    obtain ⟨I1, J1, A1, B1, a1, g1, t1, r1, fI, fJ, fA, fB⟩ := cC_game e I J A B v q g.2.2.2.2.2.1.1 g.2.2.2.2.2.2
    have hA : ∀ i, 24 ≤ i → i < 31 ∨ 33 < i → A1 i = A i := fun i h1 h2 => fA i (by omega) (by omega) (by omega) (by omega) (by omega) (by omega)
    have hI : ∀ i, i = 24 ∨ 34 ≤ i → I1 i = I i := fun i h1 => fI i (by omega) (by omega) (by omega) (by omega) (by omega)
    have cn : CSd K' R' C' (fun _ => 0) 0 false 0 false (fun _ => 0) (fun _ => 0) (fun _ => 0) 0 false t tp pn ln tx n ra pl wo ls I1 J1 A1 B1 := ⟨g1, t1, r1, y.co (by rw [hI 24 (by decide)]) (hA 25 (by decide) (by decide)), p.co (by rw [hI 24 (by decide)]) (hA 26 (by decide) (by decide)) (hA 27 (by decide) (by decide)), u.co (hA 28 (by decide) (by decide)) (hA 29 (by decide) (by decide)), l.co (by rw [hI 34 (by decide)]) (hA 35 (by decide) (by decide)) (hA 36 (by decide) (by decide)) (hA 37 (by decide) (by decide)) (hA 38 (by decide) (by decide))⟩
    refine StG.ok hm (wL_game a1) cn ⟨fun i hi => hI i (by omega), fun i hi => hA i (by omega) (by omega), fun i h1 _ => fB i (by omega) (by omega)⟩ (fun I J A B h => ?_) (by
      obtain ⟨b1, b2, b3, b4, b5, b6⟩ := bn
      exact ⟨⟨v, fun i hi => absurd hi (Nat.not_lt_zero _), fun i j _ _ h3 => absurd h3 (Nat.not_lt_zero _), fun z => (by cases z)⟩, TB.zero, b3, b4, b5, b6⟩)
    obtain ⟨h1, h2, h3, h4, h5, h6⟩ := h
    obtain ⟨I2, A2, B2, b1, b2, g2, t2, r2, kI, kP, kA, kB⟩ := cM_game 1 mm_R0 e I J A B v q h1.2.2.2.2
    rw [mm_RM_0] at b1
    have kA' : ∀ i, 54 < i → A2 i = A i := fun i hi => kA i (by omega) (by omega) (by omega) (by omega) (by omega) (by omega)
    exact ⟨I2, J, A2, B2, b1, b2, ⟨g2, t2, r2, h4.co (kP 27 (by decide) (by decide)) (kA' 55 (by decide)), h5.co (kP 28 (by decide) (by decide)) (kA' 56 (by decide)) (kA' 57 (by decide)), h6.co (kP 31 (by decide) (by decide)) (kA' 58 (by decide)) (kA' 59 (by decide)) (kA' 60 (by decide)) (kA' 61 (by decide))⟩, ⟨fun i hi => kI i (by omega), fun _ _ => rfl, fun i hi => kA i (by omega) (by omega) (by omega) (by omega) (by omega) (by omega), fun i hi => kB i (by omega) (by omega) (by omega), kB 64 (by decide) (by decide) (by decide)⟩⟩
/-- what a move, a swap, an undoing leave: class -/
theorem CSd.fv {lg' : Nat → Nat} {m' : Nat} {sw' : Bool} {us' : Nat → Nat} {I' : Nat → Nat → Int32} {J' : Nat → Nat → Int64} {A' : Nat → Nat → Int32} (hc : CSd K R C lg m sw ea tk se pe us lo rc t tp pn ln tx n ra pl wo ls I J A B) (g : CG K R C lg' m' sw' I' J' A' B) (t' : TC ea tk se pe us' lo I' A') (f : FV I I' J J' A A') : CSd K R C lg' m' sw' ea tk se pe us' lo rc t tp pn ln tx n ra pl wo ls I' J' A' B := by
  obtain ⟨_, _, r, y, p, u, l⟩ := hc
  have hA : ∀ i, 24 ≤ i → i ≠ 33 → A' i = A i := fun i h1 h2 => f.2.2 i (by omega) h2
  exact ⟨g, t', by rw [f.1 0 (by decide)]; exact r, y.co (by rw [f.1 24 (by decide)]) (hA 25 (by decide) (by decide)), p.co (by rw [f.1 24 (by decide)]) (hA 26 (by decide) (by decide)) (hA 27 (by decide) (by decide)), u.co (hA 28 (by decide) (by decide)) (hA 29 (by decide) (by decide)), l.co (by rw [f.1 34 (by decide)]) (hA 35 (by decide) (by decide)) (hA 36 (by decide) (by decide)) (hA 37 (by decide) (by decide)) (hA 38 (by decide) (by decide))⟩
theorem FV.hc {I' : Nat → Nat → Int32} {J' : Nat → Nat → Int64} {A' : Nat → Nat → Int32} (f : FV I I' J J' A A') : HC I I' A A' B B := ⟨fun i hi => f.1 i (by omega), fun i hi => f.2.2 i (by omega) (by omega), fun _ _ _ => rfl⟩
theorem MSd.fu {lg' : Nat → Nat} {m' : Nat} {sw' : Bool} {us' : Nat → Nat} {I' : Nat → Nat → Int32} {A' : Nat → Nat → Int32} {B' : Nat → Nat → Int64} (hm : MSd K R C lg m sw ea tk se pe us lo rc t tp pn ln tx n ra pl wo ls I A B) (g : MG K R C lg' m' sw' I' A' B') (t' : TM ea tk se pe us' lo I' A') (f : FU I I' A A' B B') : MSd K R C lg' m' sw' ea tk se pe us' lo rc t tp pn ln tx n ra pl wo ls I' A' B' := by
  obtain ⟨_, _, r, y, p, l⟩ := hm
  have hA : ∀ i, 54 < i → A' i = A i := fun i h1 => f.2.2.1 i (by omega) (by omega)
  have hP : ∀ p, 13 < p → p ≠ 39 → I' 39 p = I 39 p := fun p h1 h2 => f.2.1 p (by omega) (by omega) h2
  exact ⟨g, t', by rw [hP 14 (by decide) (by decide)]; exact r, y.co (hP 27 (by decide) (by decide)) (hA 55 (by decide)), p.co (hP 28 (by decide) (by decide)) (hA 56 (by decide)) (hA 57 (by decide)), l.co (hP 31 (by decide) (by decide)) (hA 58 (by decide)) (hA 59 (by decide)) (hA 60 (by decide)) (hA 61 (by decide))⟩
theorem FU.hm {I' : Nat → Nat → Int32} {A' : Nat → Nat → Int32} {B' : Nat → Nat → Int64} (f : FU I I' A A' B B') : HM I I' J J A A' B B' := ⟨fun i hi => f.1 i (by omega), fun _ _ => rfl, fun i hi => f.2.2.1 i (by omega) (by omega), fun i hi => f.2.2.2 i (by omega), f.2.2.2 64 (by decide)⟩
theorem st_move (hc : CSd K R C lg m sw ea tk se pe us lo rc t tp pn ln tx n ra pl wo ls I J A B) (hm : MSd K R C lg m sw ea tk se pe us lo rc t tp pn ln tx n ra pl wo ls I A B) (hb : BSd K R C lg m sw ea tk se pe us lo rc t tp pn ln tx n ra pl wo ls c) (hk : c < 10000) (x1 : Int32) : StG vI oI c e I J A B f_L_move [.ref 0, .int x1, .ref 64] f_X11_move [.ref 39, .int x1] := by
  have bn := hb.next hk
  cases q : cellP (bN K R C) x1 with
  | false => exact StG.no1 (v := i32 0) (kk := 1) hc hm bn (by decide) (by decide) (wL_move_x1 (cC_move_1 e I J A B hc.1.1 q)) (by have hz := cM_move_1 1 mm_R0 (e + 1) I J A B hm.1.1 q; rw [mm_RM_0] at hz; exact hz)
  | true =>
    obtain ⟨d, hd, rfl⟩ := cellP_ex (bN_le hb.1.1) q
    cases he : mb (emp (bN K R C) (sN lg m sw 0) (sN lg m sw 1)) d with
    | false => exact StG.no2 (v := i32 0) (kk := 2) hc hm bn (by decide) (by decide) (wL_move_x2 (cC_move_2 e I J A B hc.1 hd he)) (by have hz := cM_move_2 1 mm_R0 (e + 1) I J A B hm.1 hd he; rw [mm_RM_0] at hz; exact hz)
    | true =>
      by_cases hw : wnr K R C lg m sw lo = iN
      · obtain ⟨I1, J1, A1, a1, g1, t1, f1⟩ := cC_move e I J A B hc.1 hb.1 hc.2.1 hb.2.1.1 he hw
        refine StG.ok hm (wL_move a1) (hc.fv g1 t1 f1) f1.hc (fun I J A B h => ?_) ⟨(hb.1.put he).1, hb.2.1.give _, bn.2.2⟩
        obtain ⟨I2, A2, B2, b1, b2, g2, t2, f2⟩ := cM_move 1 mm_R0 e I J A B h.1 hb.1 h.2.1 hb.2.1.1 he hw
        rw [mm_RM_0] at b1
        exact ⟨I2, J, A2, B2, b1, b2, h.fu g2 t2 f2, f2.hm⟩
      · exact StG.no2 (v := i32 0) (kk := 3) hc hm bn (by decide) (by decide) (wL_move_x3 (cC_move_3 e I J A B hc.1 hc.2.1 hb.2.1.1 hd he hw)) (by have hz := cM_move_3 1 mm_R0 (e + 1) I J A B hm.1 hm.2.1 hb.2.1.1 hd he hw; rw [mm_RM_0] at hz; exact hz)
theorem st_swap (hc : CSd K R C lg m sw ea tk se pe us lo rc t tp pn ln tx n ra pl wo ls I J A B) (hm : MSd K R C lg m sw ea tk se pe us lo rc t tp pn ln tx n ra pl wo ls I A B) (hb : BSd K R C lg m sw ea tk se pe us lo rc t tp pn ln tx n ra pl wo ls c) (hk : c < 10000) : StG vI oI c e I J A B f_L_swap [.ref 0, .ref 64] f_X11_swap [.ref 39] := by
  have bn := hb.next hk
  by_cases q : wnr K R C lg m sw lo = iN ∧ m = 1
  · obtain ⟨hw, rfl⟩ := q
    obtain ⟨I1, J1, A1, a1, g1, t1, f1⟩ := cC_swap e I J A B hc.1 hb.1 hc.2.1 hb.2.1.1 hw
    refine StG.ok hm (wL_swap a1) (hc.fv g1 t1 f1) f1.hc (fun I J A B h => ?_) ⟨hb.1.swap.1, hb.2.1.give _, bn.2.2⟩
    obtain ⟨I2, A2, B2, b1, b2, g2, t2, f2⟩ := cM_swap 1 mm_R0 e I J A B h.1 hb.1 h.2.1 hb.2.1.1 hw
    rw [mm_RM_0] at b1
    exact ⟨I2, J, A2, B2, b1, b2, h.fu g2 t2 f2, f2.hm⟩
  · have no : ¬ wnr K R C lg m sw lo = iN ∨ m ≠ 1 := by
      by_cases z : wnr K R C lg m sw lo = iN
      · exact Or.inr (fun y => q ⟨z, y⟩)
      · exact Or.inl z
    exact StG.no1 (v := i32 0) (kk := 1) hc hm bn (by decide) (by decide) (wL_swap_x3 (cC_swap_no e I J A B hc.1 hc.2.1 hb.2.1.1 no)) (by have hz := cM_swap_no 1 mm_R0 (e + 1) I J A B hm.1 hm.2.1 hb.2.1.1 no; rw [mm_RM_0] at hz; exact hz)
theorem st_undo (hc : CSd K R C lg m sw ea tk se pe us lo rc t tp pn ln tx n ra pl wo ls I J A B) (hm : MSd K R C lg m sw ea tk se pe us lo rc t tp pn ln tx n ra pl wo ls I A B) (hb : BSd K R C lg m sw ea tk se pe us lo rc t tp pn ln tx n ra pl wo ls c) (hk : c < 10000) : StG vI oI c e I J A B f_L_undo [.ref 0, .ref 64] f_X11_undo [.ref 39] := by
  have bn := hb.next hk
  by_cases q : m = 0 ∨ lo ≠ 0 ∨ rc = true
  · exact StG.no1 (v := i32 0) (kk := 1) hc hm bn (by decide) (by decide) (wL_undo_x3 (cC_undo_no e I J A B hc.1 hc.2.1 hb.2.1.1 hc.2.2.1 q)) (by have hz := cM_undo_no 1 mm_R0 (e + 1) I J A B hm.1 hm.2.1 hb.2.1.1 hm.2.2.1 q; rw [mm_RM_0] at hz; exact hz)
  · have h0 : 0 < m := Nat.pos_of_ne_zero (fun z => q (Or.inl z))
    have l0 : lo = 0 := by
      by_cases z : lo = 0
      · exact z
      · exact absurd (Or.inr (Or.inl z)) q
    have r0 : rc = false := by
      cases z : rc with
      | false => rfl
      | true => exact absurd (Or.inr (Or.inr z)) q
    subst l0
    subst r0
    obtain ⟨I1, J1, a1, g1, f1⟩ := cC_undo e I J A B hc.1 hc.2.1 hc.2.2.1 h0
    refine StG.ok hm (wL_undo a1) (hc.fv g1 (hc.2.1.co (f1.1 30 (by decide)) rfl rfl rfl) f1) f1.hc (fun I J A B h => ?_) ⟨hb.1.undo h0, bn.2⟩
    obtain ⟨I2, B2, b1, b2, g2, f2⟩ := cM_undo 1 mm_R0 e I J A B h.1 hb.1 h.2.1 h.2.2.1 h0
    rw [mm_RM_0] at b1
    exact ⟨I2, J, A, B2, b1, b2, h.fu g2 (h.2.1.co (f2.2.1 13 (by decide) (by decide) (by decide)) (f2.2.1 15 (by decide) (by decide) (by decide)) (f2.2.1 16 (by decide) (by decide) (by decide)) rfl rfl rfl) f2, f2.hm⟩
/-- what the tape and the patterns leave: class, reference -/
theorem CSd.fy {I' : Nat → Nat → Int32} {A' : Nat → Nat → Int32} {t' pn' : Nat} {tp' ln' : Nat → Nat} {tx' : Nat → Nat → Nat} (hc : CSd K R C lg m sw ea tk se pe us lo rc t tp pn ln tx n ra pl wo ls I J A B) (fI : ∀ i, i ≠ 24 → I' i = I i) (fA : ∀ i, i < 25 ∨ 29 < i → A' i = A i) (y' : YC t' tp' I' A') (p' : PC pn' ln' tx' I' A') (u' : PR pn' ln' tx' A') : CSd K R C lg m sw ea tk se pe us lo rc t' tp' pn' ln' tx' n ra pl wo ls I' J A' B := by
  obtain ⟨g, tc, r, _, _, _, l⟩ := hc
  exact ⟨g.low I J A B (fun i hi => fI i (by omega)) (fun _ _ => rfl) (fun i hi => fA i (by omega)) (fun _ _ => rfl), tc.co (fI 30 (by decide)) (fA 31 (by decide)) (fA 32 (by decide)) (fA 33 (by decide)), by rw [fI 0 (by decide)]; exact r, y', p', u', l.co (by rw [fI 34 (by decide)]) (fA 35 (by decide)) (fA 36 (by decide)) (fA 37 (by decide)) (fA 38 (by decide))⟩
theorem MSd.fz {I' : Nat → Nat → Int32} {A' : Nat → Nat → Int32} {t' pn' : Nat} {tp' ln' : Nat → Nat} {tx' : Nat → Nat → Nat} (hm : MSd K R C lg m sw ea tk se pe us lo rc t tp pn ln tx n ra pl wo ls I A B) (fP : ∀ p, p ≠ 27 → p ≠ 28 → p ≠ 39 → I' 39 p = I 39 p) (fA : ∀ i, i < 55 ∨ 57 < i → A' i = A i) (y' : YM t' tp' I' A') (p' : PM pn' ln' tx' I' A') : MSd K R C lg m sw ea tk se pe us lo rc t' tp' pn' ln' tx' n ra pl wo ls I' A' B := by
  obtain ⟨g, tc, r, _, _, l⟩ := hm
  exact ⟨g.low I A B (fun p hp => fP p (by omega) (by omega) (by omega)) (fun i hi => fA i (by omega)) (fA 51 (by decide)) (fun _ _ => rfl), tc.co (fP 13 (by decide) (by decide) (by decide)) (fP 15 (by decide) (by decide) (by decide)) (fP 16 (by decide) (by decide) (by decide)) (fA 47 (by decide)) (fA 48 (by decide)) (fA 49 (by decide)), by rw [fP 14 (by decide) (by decide) (by decide)]; exact r, y', p', l.co (fP 31 (by decide) (by decide) (by decide)) (fA 58 (by decide)) (fA 59 (by decide)) (fA 60 (by decide)) (fA 61 (by decide))⟩
theorem st_type (hc : CSd K R C lg m sw ea tk se pe us lo rc t tp pn ln tx n ra pl wo ls I J A B) (hm : MSd K R C lg m sw ea tk se pe us lo rc t tp pn ln tx n ra pl wo ls I A B) (hb : BSd K R C lg m sw ea tk se pe us lo rc t tp pn ln tx n ra pl wo ls c) (hk : c < 10000) (x1 : Int64) (x3 : Int32) : StG vI oI c e I J A B f_L_type [.ref 0, .long x1, .int x3, .ref 64] f_X11_type [.ref 39, .long x1, .int x3] := by
  have bn := hb.next hk
  cases q : typP x1 x3 with
  | false => exact StG.no1 (v := i32 0) (kk := 1) hc hm bn (by decide) (by decide) (wL_type_x2 (cC_type_1 e I J A B q)) (by have hz := cM_type_1 1 mm_R0 (e + 1) I J A B q; rw [mm_RM_0] at hz; exact hz)
  | true =>
    obtain ⟨d, h1, h2, rfl, ho⟩ := typ_cases q
    by_cases hl : t + d ≤ 30
    · obtain ⟨I1, A1, a1, y1, fI, fP, fA⟩ := cC_type e I J A B hc.2.2.2.1 h1 h2 ho hl
      refine StG.ok hm (wL_type a1) (hc.fy fI (fun i hi => fA i (by omega)) y1 (hc.2.2.2.2.1.co (fP 7 (by decide)) (fA 26 (by decide)) (fA 27 (by decide))) (hc.2.2.2.2.2.1.co (fA 28 (by decide)) (fA 29 (by decide)))) ⟨fun i hi => fI i (by omega), fun i hi => fA i (by omega), fun _ _ _ => rfl⟩ (fun I J A B h => ?_) ⟨bn.1, bn.2.1, hb.2.2.1.type ho, bn.2.2.2⟩
      obtain ⟨I2, A2, b1, b2, y2, kI, kP, kA⟩ := cM_type 1 mm_R0 e I J A B h.2.2.2.1 h1 h2 ho hl
      rw [mm_RM_0] at b1
      exact ⟨I2, J, A2, B, b1, b2, h.fz (fun p h1 _ h3 => kP p h1 h3) (fun i hi => kA i (by omega)) y2 (h.2.2.2.2.1.co (kP 28 (by decide) (by decide)) (kA 56 (by decide)) (kA 57 (by decide))), ⟨fun i hi => kI i (by omega), fun _ _ => rfl, fun i hi => kA i (by omega), fun _ _ => rfl, rfl⟩⟩
    · exact StG.no2 (v := i32 0) (kk := 2) hc hm bn (by decide) (by decide) (wL_type_x3 (cC_type_2 e I J A B hc.2.2.2.1 h1 h2 ho (by omega))) (by have hz := cM_type_2 1 mm_R0 (e + 1) I J A B hm.2.2.2.1 h1 h2 ho (by omega); rw [mm_RM_0] at hz; exact hz)
theorem YB.zero {tp : Nat → Nat} : YB 0 tp := fun j hj => absurd hj (Nat.not_lt_zero _)
theorem st_wipe (hc : CSd K R C lg m sw ea tk se pe us lo rc t tp pn ln tx n ra pl wo ls I J A B) (hm : MSd K R C lg m sw ea tk se pe us lo rc t tp pn ln tx n ra pl wo ls I A B) (hb : BSd K R C lg m sw ea tk se pe us lo rc t tp pn ln tx n ra pl wo ls c) (hk : c < 10000) : StW c e I J A B f_X10_wipe f_X11_wipe := by
  have bn := hb.next hk
  obtain ⟨a1, a2, a3⟩ := cC_wipe e I J A B hc.2.2.2.1
  have hm1 := hm.hc (I' := mm_up I 24 6 (i32 0)) (A' := A) (B' := B) ⟨fun i hi => a3.1 i (by omega), fun _ _ => rfl, fun _ _ _ => rfl⟩
  obtain ⟨b1, b2, b3, b4⟩ := cM_wipe 1 mm_R0 e (mm_up I 24 6 (i32 0)) J A B hm1.2.2.2.1
  rw [mm_RM_0] at b1
  have c1 := hc.fy a3.1 (fun _ _ => rfl) a2 (hc.2.2.2.2.1.co (mm_up_ne2 _ _ _ _ _ _ (by decide)) rfl rfl) (hc.2.2.2.2.2.1)
  have m1 := hm1.fz b3.2.1 (fun _ _ => rfl) b2 (hm1.2.2.2.2.1.co (by rw [mm_up_ne2 _ _ _ _ _ _ (by decide), mm_up_ne2 _ _ _ _ _ _ (by decide)]) rfl rfl)
  exact ⟨_, _, J, A, B, _, J, A, B, a1, b1, ⟨_, _, _, _, _, _, _, _, _, _, _, _, _, _, _, _, _, _, _, _, _, _, _, c1.hm ⟨fun i hi => b3.1 i (by omega), fun _ _ => rfl, fun _ _ => rfl, fun _ _ => rfl, rfl⟩, m1, ⟨bn.1, bn.2.1, YB.zero, bn.2.2.2⟩⟩⟩
theorem st_pattern (hc : CSd K R C lg m sw ea tk se pe us lo rc t tp pn ln tx n ra pl wo ls I J A B) (hm : MSd K R C lg m sw ea tk se pe us lo rc t tp pn ln tx n ra pl wo ls I A B) (hb : BSd K R C lg m sw ea tk se pe us lo rc t tp pn ln tx n ra pl wo ls c) (hk : c < 10000) : StG vI oI c e I J A B f_L_pattern [.ref 0, .ref 64] f_X11_pattern [.ref 39] := by
  have bn := hb.next hk
  obtain ⟨_, _, hYB, hPB, _⟩ := hb
  by_cases hs : scn tp t 0 0 = iN
  · by_cases hn : pn < 6
    · obtain ⟨I1, A1, a1, y1, p1, u1, f1⟩ := cC_pattern e I J A B hc.2.2.2.1 hYB hc.2.2.2.2.1 hPB hc.2.2.2.2.2.1 hn hs
      refine StG.ok hm (wL_pattern a1) (hc.fy f1.1 f1.2.2 y1 p1 u1) ⟨fun i hi => f1.1 i (by omega), fun i hi => f1.2.2 i (by omega), fun _ _ _ => rfl⟩ (fun I J A B h => ?_) ⟨bn.1, bn.2.1, YB.zero, hPB.keep hc.2.2.2.1.2.1 hs, bn.2.2.2.2⟩
      obtain ⟨I2, A2, b1, b2, y2, p2, f2⟩ := cM_pattern 1 mm_R0 e I J A B h.2.2.2.1 hYB h.2.2.2.2.1 hPB hn hs
      rw [mm_RM_0] at b1
      exact ⟨I2, J, A2, B, b1, b2, h.fz f2.2.1 f2.2.2 y2 p2, ⟨fun i hi => f2.1 i (by omega), fun _ _ => rfl, fun i hi => f2.2.2 i (by omega), fun _ _ => rfl, rfl⟩⟩
    · exact StG.no2 (v := i32 0) (kk := 2) hc hm bn (by decide) (by decide) (wL_pattern_x3 (cC_pattern_2 e I J A B hc.2.2.2.1 hYB hc.2.2.2.2.1 hs hn)) (by have hz := cM_pattern_2 1 mm_R0 (e + 1) I J A B hm.2.2.2.1 hYB hm.2.2.2.2.1 hs hn; rw [mm_RM_0] at hz; exact hz)
  · exact StG.no1 (v := i32 0) (kk := 1) hc hm bn (by decide) (by decide) (wL_pattern_x2 (cC_pattern_1 e I J A B hc.2.2.2.1 hYB hs)) (by have hz := cM_pattern_1 1 mm_R0 (e + 1) I J A B hm.2.2.2.1 hYB hs; rw [mm_RM_0] at hz; exact hz)
/-- what the clocks leave -/
theorem CSd.ft {I' : Nat → Nat → Int32} {A' : Nat → Nat → Int32} {ea' : Nat} {tk' : Bool} {se' pe' us' : Nat → Nat} {lo' : Nat} (hc : CSd K R C lg m sw ea tk se pe us lo rc t tp pn ln tx n ra pl wo ls I J A B) (f : FT I I' A A') (t' : TC ea' tk' se' pe' us' lo' I' A') : CSd K R C lg m sw ea' tk' se' pe' us' lo' rc t tp pn ln tx n ra pl wo ls I' J A' B := by
  obtain ⟨g, _, r, y, p, u, l⟩ := hc
  have hA : ∀ i, i < 31 ∨ 33 < i → A' i = A i := fun i hi => f.2 i (by omega) (by omega) (by omega)
  exact ⟨g.ft I J A B f, t', by rw [f.1 0 (by decide)]; exact r, y.co (by rw [f.1 24 (by decide)]) (hA 25 (by decide)), p.co (by rw [f.1 24 (by decide)]) (hA 26 (by decide)) (hA 27 (by decide)), u.co (hA 28 (by decide)) (hA 29 (by decide)), l.co (by rw [f.1 34 (by decide)]) (hA 35 (by decide)) (hA 36 (by decide)) (hA 37 (by decide)) (hA 38 (by decide))⟩
theorem FT.hc {I' : Nat → Nat → Int32} {A' : Nat → Nat → Int32} (f : FT I I' A A') : HC I I' A A' B B := ⟨fun i hi => f.1 i (by omega), fun i hi => f.2 i (by omega) (by omega) (by omega), fun _ _ _ => rfl⟩
theorem MSd.fw {I' : Nat → Nat → Int32} {A' : Nat → Nat → Int32} {ea' : Nat} {tk' : Bool} {se' pe' us' : Nat → Nat} {lo' : Nat} (hm : MSd K R C lg m sw ea tk se pe us lo rc t tp pn ln tx n ra pl wo ls I A B) (f : FW I I' A A') (t' : TM ea' tk' se' pe' us' lo' I' A') : MSd K R C lg m sw ea' tk' se' pe' us' lo' rc t tp pn ln tx n ra pl wo ls I' A' B := by
  obtain ⟨g, _, r, y, p, l⟩ := hm
  have hA : ∀ i, 54 < i → A' i = A i := fun i hi => f.2.2 i (by omega) (by omega) (by omega)
  have hP : ∀ p, 16 < p ∨ p = 14 → p ≠ 39 → I' 39 p = I 39 p := fun p h1 h2 => f.2.1 p (by omega) (by omega) (by omega) h2
  exact ⟨g.fw I A B f, t', by rw [hP 14 (by decide) (by decide)]; exact r, y.co (hP 27 (by decide) (by decide)) (hA 55 (by decide)), p.co (hP 28 (by decide) (by decide)) (hA 56 (by decide)) (hA 57 (by decide)), l.co (hP 31 (by decide) (by decide)) (hA 58 (by decide)) (hA 59 (by decide)) (hA 60 (by decide)) (hA 61 (by decide))⟩
theorem FW.hm {I' : Nat → Nat → Int32} {A' : Nat → Nat → Int32} (f : FW I I' A A') : HM I I' J J A A' B B := ⟨fun i hi => f.1 i (by omega), fun _ _ => rfl, fun i hi => f.2.2 i (by omega) (by omega) (by omega), fun _ _ => rfl, rfl⟩
theorem st_think (hc : CSd K R C lg m sw ea tk se pe us lo rc t tp pn ln tx n ra pl wo ls I J A B) (hm : MSd K R C lg m sw ea tk se pe us lo rc t tp pn ln tx n ra pl wo ls I A B) (hb : BSd K R C lg m sw ea tk se pe us lo rc t tp pn ln tx n ra pl wo ls c) (hk : c < 10000) (x1 : Int32) : StG vI oI c e I J A B f_L_think [.ref 0, .int x1, .ref 64] f_X11_think [.ref 39, .int x1] := by
  have bn := hb.next hk
  cases q : rgP x1 1 600 with
  | false => exact StG.no1 (v := i32 0) (kk := 1) hc hm bn (by decide) (by decide) (wL_think_x2 (cC_think_1 e I J A B q)) (by have hz := cM_think_1 1 mm_R0 (e + 1) I J A B q; rw [mm_RM_0] at hz; exact hz)
  | true =>
    obtain ⟨d, h1, h2, rfl⟩ := rg_cases (lo := 1) (hi := 600) (by decide) (by decide) q
    by_cases no : tk = false ∨ ¬ wnr K R C lg m sw lo = iN
    · exact StG.no2 (v := i32 0) (kk := 2) hc hm bn (by decide) (by decide) (wL_think_x3 (cC_think_2 e I J A B hc.1 hc.2.1 hb.2.1.1 h1 h2 no)) (by have hz := cM_think_2 1 mm_R0 (e + 1) I J A B hm.1 hm.2.1 hb.2.1.1 h1 h2 no; rw [mm_RM_0] at hz; exact hz)
    · have t0 : tk = true := by
        cases z : tk with
        | true => rfl
        | false => exact absurd (Or.inl z) no
      have hw : wnr K R C lg m sw lo = iN := by
        by_cases z : wnr K R C lg m sw lo = iN
        · exact z
        · exact absurd (Or.inr z) no
      subst t0
      obtain ⟨I1, A1, a1, t1, f1⟩ := cC_think e I J A B hc.1 hc.2.1 hb.2.1 h1 h2 hw
      refine StG.ok hm (wL_think a1) (hc.ft f1 t1) f1.hc (fun I J A B h => ?_) ⟨bn.1, ?_, bn.2.2⟩
      · obtain ⟨I2, A2, b1, b2, t2, f2⟩ := cM_think 1 mm_R0 e I J A B h.1 h.2.1 hb.2.1 h1 h2 hw
        rw [mm_RM_0] at b1
        exact ⟨I2, J, A2, B, b1, b2, h.fw f2 t2, f2.hm⟩
      · have l0 := (wnr_lo hb.2.1.1 hw).1
        subst l0
        exact hb.2.1.spend (by omega) h1 h2
theorem st_clocks (hc : CSd K R C lg m sw ea tk se pe us lo rc t tp pn ln tx n ra pl wo ls I J A B) (hm : MSd K R C lg m sw ea tk se pe us lo rc t tp pn ln tx n ra pl wo ls I A B) (hb : BSd K R C lg m sw ea tk se pe us lo rc t tp pn ln tx n ra pl wo ls c) (hk : c < 10000) (x1 x2 x3 : Int32) : StN c e I J A B f_L_clocks [.ref 0, .int x1, .int x2, .int x3] f_X11_clocks [.ref 39, .int x1, .int x2, .int x3] := by
  have bn := hb.next hk
  have no : ∀ {kk : Nat} {I' : Nat → Nat → Int32}, kk < 4 → f_L_clocks [.ref 0, .int x1, .int x2, .int x3] (65, e, mm_R0, I, J, A, B) = some (.inl (some (.int (i32 kk))), (65, e + 1, mm_R0, I, J, A, B)) → f_X11_clocks [.ref 39, .int x1, .int x2, .int x3] (65, e + 1, mm_R0, I, J, A, B) = some (.inl none, (65, e + 1, mm_R0, I', J, A, B)) → I' 39 39 = i32 kk → (∀ i, i ≠ 39 → I' i = I i) → (∀ p, p ≠ 21 → p ≠ 39 → I' 39 p = I 39 p) → StN c e I J A B f_L_clocks [.ref 0, .int x1, .int x2, .int x3] f_X11_clocks [.ref 39, .int x1, .int x2, .int x3] := fun {kk I'} h4 hL hM h39 hI h2 => ⟨e + 1, kk, I, J, A, B, I', J, A, B, h4, hL, hM, h39, Nat.le_refl _, ⟨_, _, _, _, _, _, _, _, _, _, _, _, _, _, _, _, _, _, _, _, _, _, _, hc.hm ⟨fun i hi => hI i (by omega), fun _ _ => rfl, fun _ _ => rfl, fun _ _ => rfl, rfl⟩, hm.no h2, bn⟩⟩
  cases q : clkP x1 x2 x3 with
  | false => exact no (kk := 1) (by decide) (wL_clocks_x2 (cC_clocks_1 e I J A B q)) (by have hz := cM_clocks_1 1 mm_R0 (e + 1) I J A B q; rw [mm_RM_0] at hz; exact hz) (mm_up_eq _ _ _ _) (fun i hi => mm_up_row _ _ _ _ _ hi) (fun p _ hp => mm_up_ne2 _ _ _ _ _ _ hp)
  | true =>
    by_cases late : tk = true ∨ 0 < m ∨ ¬ wnr K R C lg m sw lo = iN
    · have b1 := cM_clocks_2 1 mm_R0 (e + 1) I J A B hm.1 hm.2.1 hb.2.1.1 q late
      rw [mm_RM_0] at b1
      obtain ⟨s, p, d, h1, h2, h3, h4, h5, rfl, rfl, rfl⟩ := clk_cases q
      exact no (kk := 2) (by decide) (wL_clocks_x3 (cC_clocks_2 e I J A B hc.1 hc.2.1 hb.2.1.1 h1 h2 h3 h4 h5 late)) b1 (mm_up_eq _ _ _ _) (fun i hi => by rw [mm_up_row _ _ _ _ _ hi, mm_up_row _ _ _ _ _ hi]) (fun p _ hp => by rw [mm_up_ne2 _ _ _ _ _ _ hp, mm_up_ne2 _ _ _ _ _ _ hp])
    · obtain ⟨s, p, d, h1, h2, h3, h4, h5, rfl, rfl, rfl⟩ := clk_cases q
      have t0 : tk = false := by
        cases z : tk with
        | false => rfl
        | true => exact absurd (Or.inl z) late
      have m0 : m = 0 := Nat.eq_zero_of_not_pos (fun z => late (Or.inr (Or.inl z)))
      have hw : wnr K R C lg m sw lo = iN := by
        by_cases z : wnr K R C lg m sw lo = iN
        · exact z
        · exact absurd (Or.inr (Or.inr z)) late
      subst t0
      obtain ⟨I1, A1, a1, t1, f1⟩ := cC_clocks e I J A B hc.1 hc.2.1 hb.2.1.1 h1 h2 h3 h4 h5 m0 hw
      have c1 := hc.ft f1 t1
      have m1 := hm.hc (B := B) (B' := B) f1.hc
      obtain ⟨I2, A2, b1, b2, t2, f2⟩ := cM_clocks 1 mm_R0 e I1 J A1 B m1.1 m1.2.1 hb.2.1.1 h1 h2 h3 h4 h5 m0 hw
      rw [mm_RM_0] at b1
      exact ⟨e, 0, I1, J, A1, B, I2, J, A2, B, by decide, wL_clocks a1, b1, b2, by omega, ⟨_, _, _, _, _, _, _, _, _, _, _, _, _, _, _, _, _, _, _, _, _, _, _, c1.hm f2.hm, m1.fw f2 t2, ⟨bn.1, ⟨by decide, fun _ => ⟨h3, h4⟩, fun p' hp => ⟨h1, h2, Nat.zero_le _, fun _ => Nat.zero_le _, fun z => absurd z (Nat.not_lt_zero _)⟩⟩, bn.2.2⟩⟩⟩
/-- what the ladder leaves -/
theorem CSd.fl {I' : Nat → Nat → Int32} {A' : Nat → Nat → Int32} {rc' : Bool} {n' : Nat} {ra' : Nat → Int} {pl' wo' ls' : Nat → Nat} (hc : CSd K R C lg m sw ea tk se pe us lo rc t tp pn ln tx n ra pl wo ls I J A B) (f : FL I I' A A') (r' : I' 0 9 = bi rc') (l' : LC n' ra' pl' wo' ls' I' A') : CSd K R C lg m sw ea tk se pe us lo rc' t tp pn ln tx n' ra' pl' wo' ls' I' J A' B := by
  obtain ⟨g, tc, _, y, p, u, _⟩ := hc
  have hA : ∀ i, i < 35 → A' i = A i := fun i hi => f.2.2 i (by omega) (by omega) (by omega) (by omega)
  have hI : ∀ i, 0 < i → i < 34 → I' i = I i := fun i h1 h2 => f.1 i (by omega) (by omega)
  exact ⟨g.low' I J A B (fun i h1 h2 => hI i h1 (by omega)) (fun _ _ => rfl) (fun i hi => hA i (by omega)) (fun _ _ => rfl), tc.co (hI 30 (by decide) (by decide)) (hA 31 (by decide)) (hA 32 (by decide)) (hA 33 (by decide)), r', y.co (by rw [hI 24 (by decide) (by decide)]) (hA 25 (by decide)), p.co (by rw [hI 24 (by decide) (by decide)]) (hA 26 (by decide)) (hA 27 (by decide)), u.co (hA 28 (by decide)) (hA 29 (by decide)), l'⟩
theorem FL.hc {I' : Nat → Nat → Int32} {A' : Nat → Nat → Int32} (f : FL I I' A A') : HC I I' A A' B B := ⟨fun i hi => f.1 i (by omega) (by omega), fun i hi => f.2.2 i (by omega) (by omega) (by omega) (by omega), fun _ _ _ => rfl⟩
theorem MSd.fk {I' : Nat → Nat → Int32} {A' : Nat → Nat → Int32} {rc' : Bool} {n' : Nat} {ra' : Nat → Int} {pl' wo' ls' : Nat → Nat} (hm : MSd K R C lg m sw ea tk se pe us lo rc t tp pn ln tx n ra pl wo ls I A B) (f : FK I I' A A') (r' : I' 39 14 = bi rc') (l' : LM n' ra' pl' wo' ls' I' A') : MSd K R C lg m sw ea tk se pe us lo rc' t tp pn ln tx n' ra' pl' wo' ls' I' A' B := by
  obtain ⟨g, tc, _, y, p, _⟩ := hm
  have hA : ∀ i, i < 58 → A' i = A i := fun i hi => f.2.2 i (by omega) (by omega) (by omega) (by omega)
  have hP : ∀ p, p < 31 → p ≠ 14 → I' 39 p = I 39 p := fun p h1 h2 => f.2.1 p h2 (by omega) (by omega)
  exact ⟨g.low I A B (fun p hp => hP p (by omega) (by omega)) (fun i hi => hA i (by omega)) (hA 51 (by decide)) (fun _ _ => rfl), tc.co (hP 13 (by decide) (by decide)) (hP 15 (by decide) (by decide)) (hP 16 (by decide) (by decide)) (hA 47 (by decide)) (hA 48 (by decide)) (hA 49 (by decide)), r', y.co (hP 27 (by decide) (by decide)) (hA 55 (by decide)), p.co (hP 28 (by decide) (by decide)) (hA 56 (by decide)) (hA 57 (by decide)), l'⟩
theorem FK.hm {I' : Nat → Nat → Int32} {A' : Nat → Nat → Int32} (f : FK I I' A A') : HM I I' J J A A' B B := ⟨fun i hi => f.1 i (by omega), fun _ _ => rfl, fun i hi => f.2.2 i (by omega) (by omega) (by omega) (by omega), fun _ _ => rfl, rfl⟩
theorem st_person (hc : CSd K R C lg m sw ea tk se pe us lo rc t tp pn ln tx n ra pl wo ls I J A B) (hm : MSd K R C lg m sw ea tk se pe us lo rc t tp pn ln tx n ra pl wo ls I A B) (hb : BSd K R C lg m sw ea tk se pe us lo rc t tp pn ln tx n ra pl wo ls c) (hk : c < 10000) : StG vI oI c e I J A B f_L_person [.ref 0, .ref 64] f_X11_person [.ref 39] := by
  have bn := hb.next hk
  by_cases hn : n < 10
  · obtain ⟨I1, A1, a1, l1, f1, r1⟩ := cC_person e I J A B hc.2.2.2.2.2.2 hn
    refine StG.ok hm (wL_person a1) (hc.fl f1 (by rw [r1]; exact hc.2.2.1) l1) f1.hc (fun I J A B h => ?_) ⟨bn.1, bn.2.1, bn.2.2.1, bn.2.2.2.1, hb.2.2.2.2.1.add (by omega), bn.2.2.2.2.2⟩
    obtain ⟨I2, A2, b1, b2, l2, f2, r2⟩ := cM_person 1 mm_R0 e I J A B h.2.2.2.2.2 hb.2.2.2.2.1 hn
    rw [mm_RM_0] at b1
    exact ⟨I2, J, A2, B, b1, b2, h.fk f2 (by rw [r2]; exact h.2.2.1) l2, f2.hm⟩
  · exact StG.no1 (v := i32 0) (kk := 1) hc hm bn (by decide) (by decide) (wL_person_x3 (cC_person_no e I J A B hc.2.2.2.2.2.2 hn)) (by have hz := cM_person_no 1 mm_R0 (e + 1) I J A B hm.2.2.2.2.2 hn; rw [mm_RM_0] at hz; exact hz)
theorem st_record (hc : CSd K R C lg m sw ea tk se pe us lo rc t tp pn ln tx n ra pl wo ls I J A B) (hm : MSd K R C lg m sw ea tk se pe us lo rc t tp pn ln tx n ra pl wo ls I A B) (hb : BSd K R C lg m sw ea tk se pe us lo rc t tp pn ln tx n ra pl wo ls c) (hk : c < 10000) (x1 x2 : Int32) : StG vI oI c e I J A B f_L_record [.ref 0, .int x1, .int x2, .ref 64] f_X11_record [.ref 39, .int x1, .int x2] := by
  have bn := hb.next hk
  cases q : (cellP n x1 && cellP n x2) with
  | false => exact StG.no1 (v := i32 0) (kk := 1) hc hm bn (by decide) (by decide) (wL_record_x1 (cC_record_1 e I J A B hc.2.2.2.2.2.2 q)) (by have hz := cM_record_1 1 mm_R0 (e + 1) I J A B hm.2.2.2.2.2 q; rw [mm_RM_0] at hz; exact hz)
  | true =>
    have q2 := Bool.and_eq_true_iff.mp q
    by_cases hxy : x1 = x2
    · subst hxy
      exact StG.no2 (v := i32 0) (kk := 2) hc hm bn (by decide) (by decide) (wL_record_x2 (cC_record_2 e I J A B hc.2.2.2.2.2.2 q2.1)) (by have hz := cM_record_2 1 mm_R0 (e + 1) I J A B hm.2.2.2.2.2 q2.1; rw [mm_RM_0] at hz; exact hz)
    · by_cases no : wnr K R C lg m sw lo = iN ∨ rc = true
      · exact StG.no2 (v := i32 0) (kk := 3) hc hm bn (by decide) (by decide) (wL_record_x3 (cC_record_3 e I J A B hc.1 hc.2.1 hb.2.1.1 hc.2.2.2.2.2.2 hc.2.2.1 q2.1 q2.2 hxy no)) (by have hz := cM_record_3 1 mm_R0 (e + 1) I J A B hm.1 hm.2.1 hb.2.1.1 hm.2.2.2.2.2 hm.2.2.1 q2.1 q2.2 hxy no; rw [mm_RM_0] at hz; exact hz)
      · have n10 : n ≤ 36 := by have := hc.2.2.2.2.2.2.2.1; omega
        obtain ⟨x, hx, rfl⟩ := cellP_ex n10 q2.1
        obtain ⟨y, hy, rfl⟩ := cellP_ex n10 q2.2
        have hne : x ≠ y := fun z => hxy (by rw [z])
        have hw : ¬ wnr K R C lg m sw lo = iN := fun z => no (Or.inl z)
        have r0 : rc = false := by
          cases z : rc with
          | false => rfl
          | true => exact absurd (Or.inr z) no
        subst r0
        obtain ⟨w, l, hwl⟩ : ∃ w l, (wnr K R C lg m sw lo = i32 0 ∧ w = x ∧ l = y) ∨ (¬ wnr K R C lg m sw lo = i32 0 ∧ w = y ∧ l = x) := by
          by_cases z : wnr K R C lg m sw lo = i32 0
          · exact ⟨x, y, Or.inl ⟨z, rfl, rfl⟩⟩
          · exact ⟨y, x, Or.inr ⟨z, rfl, rfl⟩⟩
        have hwn : w < n ∧ l < n := by
          rcases hwl with ⟨_, a, b⟩ | ⟨_, a, b⟩ <;> omega
        obtain ⟨I1, A1, a1, l1, f1, r1⟩ := cC_record e I J A B hc.1 hc.2.1 hb.2.1.1 hc.2.2.2.2.2.2 hb.2.2.2.2.1 hb.2.2.2.2.2 hc.2.2.1 hx hy hne hw hwl
        refine StG.ok hm (wL_record a1) (hc.fl f1 r1 l1) f1.hc (fun I J A B h => ?_) ⟨bn.1, bn.2.1, bn.2.2.1, bn.2.2.2.1, hb.2.2.2.2.1.rec hwn.1 hwn.2, bn.2.2.2.2.2⟩
        obtain ⟨I2, A2, b1, b2, l2, f2, r2⟩ := cM_record 1 mm_R0 e I J A B h.1 h.2.1 hb.2.1.1 h.2.2.2.2.2 hb.2.2.2.2.1 hb.2.2.2.2.2 h.2.2.1 hx hy hne hw hwl
        rw [mm_RM_0] at b1
        exact ⟨I2, J, A2, B, b1, b2, h.fk f2 r2 l2, f2.hm⟩
end
