/-! move: reference -/
abbrev FU (I I' : Nat → Nat → Int32) (A A' : Nat → Nat → Int32) (B B' : Nat → Nat → Int64) : Prop := (∀ i, i ≠ 39 → I' i = I i) ∧ (∀ p, p ≠ 10 → p ≠ 12 → p ≠ 39 → I' 39 p = I 39 p) ∧ (∀ i, i ≠ 46 → i ≠ 49 → A' i = A i) ∧ (∀ i, i ≠ 45 → B' i = B i)
section
variable {K R C : Nat} {lg : Nat → Nat} {m : Nat} {sw : Bool} {ea : Nat} {tk : Bool} {se pe us : Nat → Nat} {lo : Nat} (k : Nat) (r : Nat → Nat → Value) (e : Nat) (I : Nat → Nat → Int32) (J : Nat → Nat → Int64) (A : Nat → Nat → Int32) (B : Nat → Nat → Int64)
theorem MG.of {lg' : Nat → Nat} {m' : Nat} {sw' : Bool} {I' A' : Nat → Nat → Int32} {B' : Nat → Nat → Int64} (h : MG K R C lg m sw I A B) (f : FU I I' A A' B B') (hp : RLg lg' m' sw' I' A') (h4 : B' 45 0 = sN lg' m' sw' 0) (h5 : B' 45 1 = sN lg' m' sw' 1) : MG K R C lg' m' sw' I' A' B' := by
  obtain ⟨f1, f2, f3, f4⟩ := f
  exact ⟨h.1.fr (fun p hp => f2 p (by omega) (by omega) (by omega)) (f3 40 (by decide) (by decide)) (f3 41 (by decide) (by decide)) (f3 42 (by decide) (by decide)) (f4 43 (by decide)) (f4 44 (by decide)), hp, h4, h5, by rw [f3 51 (by decide) (by decide)]; exact h.2.2.2.2⟩
theorem TM.give (t : TM ea tk se pe us lo I A) {p : Nat} {I' A' : Nat → Nat → Int32} (h13 : I' 39 13 = I 39 13) (h15 : I' 39 15 = I 39 15) (h16 : I' 39 16 = I 39 16) (h31 : A' 47 = A 47) (h32 : A' 48 = A 48) (h33 : A' 49 = mm_up A 49 p (i32 0) 49) : TM ea tk se pe (upN us p 0) lo I' A' := by
  refine ⟨fun z => by rw [h16]; exact t.1 z, by rw [h15]; exact t.2.1, by rw [h13]; exact t.2.2.1, fun q hq => ?_⟩
  have g := t.2.2.2 q hq
  rw [h31, h32, h33]
  unfold upN
  by_cases y : q = p
  · subst y; rw [mm_up_eq, if_pos rfl]; exact ⟨g.1, g.2.1, rfl⟩
  · rw [mm_up_ne2 _ _ _ _ _ _ y, if_neg y]; exact g
theorem cM_move (h : MG K R C lg m sw I A B) (w : WG K R C lg m sw) (t : TM ea tk se pe us lo I A) (hl : lo ≤ 2) {c : Nat} (he : mb (emp (bN K R C) (sN lg m sw 0) (sN lg m sw 1)) c = true) (hw : wnr K R C lg m sw lo = iN) : ∃ I' A' B', f_X11_move [.ref 39, .int (i32 c)] (k + 64, e, (mm_RM r), I, J, A, B) = some (.inl (some (.int (wnr K R C (lgp lg m c) (m + 1) sw lo))), (k + 64, e, (mm_RM r), I', J, A', B')) ∧ I' 39 39 = i32 0 ∧ MG K R C (lgp lg m c) (m + 1) sw I' A' B' ∧ TM ea tk se pe (upN us (m % 2) 0) lo I' A' ∧ FU I I' A A' B B' := by
  obtain ⟨w1, w2, w3⟩ := w.put he
  have hG := h.fr (FM.th I J A B (i32 0))
  have tG := TM.th I A (x := i32 0) t
  have l0 := (wnr_lo hl hw).1
  have kl := kf_le sw m
  have kk := kf_s w.2.2.2
  obtain ⟨I0, hI0⟩ : ∃ I0, I0 = mm_up I 39 39 (i32 0) := ⟨_, rfl⟩
  obtain ⟨A1, hA1⟩ : ∃ A1, A1 = mm_up A 49 (m % 2) (i32 0) := ⟨_, rfl⟩
  obtain ⟨I', hI'⟩ : ∃ I', I' = mm_up I0 39 10 (i32 (m + 1)) := ⟨_, rfl⟩
  obtain ⟨A', hA'⟩ : ∃ A', A' = mm_up A1 46 m (i32 c) := ⟨_, rfl⟩
  obtain ⟨B', hB'⟩ : ∃ B', B' = mm_up B 45 (m % 2) (sN lg m sw (m % 2) ||| mbit c) := ⟨_, rfl⟩
  have st : ∀ q, q < 2 → B 45 q = sN lg m sw q := fun q hq => MG.st I B h hq
  have hB : ∀ q, q < 2 → B' 45 q = sN (lgp lg m c) (m + 1) sw q := by
    intro q hq
    show _ = stN (lgp lg m c) (kf sw (m + 1)) q (m + 1)
    rw [kk, stN_put, hB']
    by_cases y : q = m % 2
    · subst y
      rw [mm_up_eq, if_pos ⟨kl.2, rfl⟩]
    · rw [mm_up_ne2 _ _ _ _ _ _ y, if_neg (fun z => y z.2.symm), or_zero64, st q hq]
  have fu : FU I I' A A' B B' := ⟨fun i hi => by rw [hI', mm_up_row _ _ _ _ _ hi, hI0, mm_up_row _ _ _ _ _ hi], fun p h1 _ h3 => by rw [hI', mm_up_ne2 _ _ _ _ _ _ h1, hI0, mm_up_ne2 _ _ _ _ _ _ h3], fun i h1 h2 => by rw [hA', mm_up_row _ _ _ _ _ h1, hA1, mm_up_row _ _ _ _ _ h2], fun i hi => by rw [hB', mm_up_row _ _ _ _ _ hi]⟩
  have rl : RLg (lgp lg m c) (m + 1) sw I' A' := by
    refine ⟨by rw [hI', mm_up_eq], by rw [hI', mm_up_ne2 _ _ _ _ _ _ (by decide), hI0, mm_up_ne2 _ _ _ _ _ _ (by decide)]; exact h.2.1.2.1, by omega, fun i hi => ?_⟩
    unfold lgp
    rw [hA']
    by_cases y : i = m
    · rw [if_pos y, y, mm_up_eq]
    · rw [if_neg y, mm_up_ne2 _ _ _ _ _ _ y, hA1, mm_up_row _ _ _ _ _ (by decide)]
      exact h.2.1.2.2.2 i (by omega)
  have mg := h.of I A B fu rl (hB 0 (by decide)) (hB 1 (by decide))
  have tm : TM ea tk se pe (upN us (m % 2) 0) lo I' A' := t.give I A (p := m % 2) (fu.2.1 13 (by decide) (by decide) (by decide)) (fu.2.1 15 (by decide) (by decide) (by decide)) (fu.2.1 16 (by decide) (by decide) (by decide)) (fu.2.2.1 47 (by decide) (by decide)) (fu.2.2.1 48 (by decide) (by decide)) (by rw [hA', mm_up_row _ _ _ _ _ (by decide), hA1])
  refine ⟨I', A', B', ?_, by rw [hI', mm_up_ne2 _ _ _ _ _ _ (by decide), hI0, mm_up_eq], mg, tm, fu⟩
  rw [← hI0] at hG tG
  have cin : (0 ≤ (i32 (m % 2)).toInt ∧ (i32 (m % 2)).toInt < 2) := (i32_in (by omega)).2 (by omega)
  have ix : (i32 (m % 2)).toInt.toNat = m % 2 := i32_ix (by omega)
  have q10 : I0 39 10 = i32 m := hG.2.1.1
  have wn : wnr K R C (lgp lg m c) (m + 1) sw lo = jnd K R C (sN (lgp lg m c) (m + 1) sw 0) (sN (lgp lg m c) (m + 1) sw 1) := by unfold wnr; rw [if_pos l0]
  rw [Mmove_start k r e I J A B h w3, he, ← hI0, sg_X11_move_22, if_neg (show ¬ bi true = 0 by decide), sp_MwinnerG k r e I0 J A B hG tG hl, mm_aft_v, sg_X11_move_35, if_pos (show wnr K R C lg m sw lo = (-1 : Int32) from hw), sp_Mturn k r e I0 J A B q10 hG.2.1.2.2.1, mm_aft_v, sg_X11_move_53, if_pos cin, ix]
  simp only [i32_l]
  rw [← hA1, sp_Mturn k r e I0 J A1 B q10 hG.2.1.2.2.1, mm_aft_v, sg_X11_move_63, if_pos cin, ix, st _ (by omega), sp_Mbit, mm_aft_v, sg_X11_move_69, if_pos cin, ix, q10, if_pos ((i32_in (by omega)).2 (by omega)), i32_ix (by omega)]
  simp only [i32_l]
  rw [i32_add, ← hA', ← hI', ← hB', sp_MjoinedG k r e I' J A' B' mg, mm_aft_v, sg_X11_move_95, wn]
end
