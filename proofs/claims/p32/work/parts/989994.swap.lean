/-! swap: both sides -/
theorem WG.swap {K R C : Nat} {lg : Nat → Nat} {sw : Bool} (w : WG K R C lg 1 sw) : WG K R C (lgp lg 1 (mirB K R C (lg 0))) 2 true ∧ lg 0 < bN K R C ∧ mirB K R C (lg 0) < bN K R C := by
  have l0 := w.2.1 0 (by decide)
  have mm := mirB_lt w.1 l0
  refine ⟨⟨w.1, fun i hi => ?_, fun i j h1 h2 h3 => ?_, fun _ => by decide⟩, l0, mm⟩
  · unfold lgp
    by_cases q : i = 1
    · rw [if_pos q]; exact mm
    · rw [if_neg q, show i = 0 by omega]; exact l0
  · have : kf true 2 = 1 := rfl
    rw [this] at h1
    omega
theorem sN_swap {K R C : Nat} {lg : Nat → Nat} (hm : mirB K R C (lg 0) < 64) : stN (lgp lg 1 (mirB K R C (lg 0))) 1 0 2 = 0 ∧ stN (lgp lg 1 (mirB K R C (lg 0))) 1 1 2 = mbit (mirB K R C (lg 0)) := by
  have a0 := stN_put lg 1 0 1 (mirB K R C (lg 0))
  have a1 := stN_put lg 1 1 1 (mirB K R C (lg 0))
  rw [stN_f lg 0 (Nat.le_refl 1)] at a0
  rw [stN_f lg 1 (Nat.le_refl 1)] at a1
  rw [if_neg (by decide)] at a0
  rw [if_pos (by decide)] at a1
  refine ⟨a0, a1.trans ?_⟩
  apply mb_ext
  intro c hc
  rw [mb_or, mb_zero, Bool.false_or]
section
variable {K R C : Nat} {lg : Nat → Nat} {m : Nat} {sw : Bool} {ea : Nat} {tk : Bool} {se pe us : Nat → Nat} {lo : Nat} {rc : Bool} (e : Nat) (I : Nat → Nat → Int32) (J : Nat → Nat → Int64) (A : Nat → Nat → Int32) (B : Nat → Nat → Int64)
theorem cC_swap_no (h : CG K R C lg m sw I J A B) (t : TC ea tk se pe us lo I A) (hl : lo ≤ 2) (no : ¬ wnr K R C lg m sw lo = iN ∨ m ≠ 1) : f_X10_swap [.ref 0] (79, e, mm_R0, I, J, A, B) = some (.inr 3, (79, e + 1, mm_R0, I, J, A, B)) := by
  have hm := h.2.1.2.2.1
  rw [en_X10_swap, sg_X10_swap_0, sp_winner e I J A B h t hl, mm_aft_v, sg_X10_swap_4, sg_X10_swap_19, h.2.1.1]
  by_cases q : wnr K R C lg m sw lo = iN
  · rw [if_pos (show wnr K R C lg m sw lo = (-1 : Int32) from q), if_neg (show ¬ i32 m = (1 : Int32) from fun z => (no.resolve_left (fun y => y q)) ((i32_eq (b := 1) (by omega) (by decide)).1 z))]
  · rw [if_neg (show ¬ wnr K R C lg m sw lo = (-1 : Int32) from q)]
theorem cC_swap (h : CG K R C lg 1 sw I J A B) (w : WG K R C lg 1 sw) (t : TC ea tk se pe us lo I A) (hl : lo ≤ 2) (hw : wnr K R C lg 1 sw lo = iN) : ∃ I' J' A', f_X10_swap [.ref 0] (79, e, mm_R0, I, J, A, B) = some (.inl (some (.int (i32 (mirB K R C (lg 0))))), (79, e, mm_R0, I', J', A', B)) ∧ CG K R C (lgp lg 1 (mirB K R C (lg 0))) 2 true I' J' A' B ∧ TC ea tk se pe (upN us 1 0) lo I' A' ∧ FV I I' J J' A A' := by
  obtain ⟨w1, w2, w3⟩ := w.swap
  obtain ⟨A1, hA1⟩ : ∃ A1, A1 = mm_up A 33 1 (i32 0) := ⟨_, rfl⟩
  have rA : ∀ i, i ≠ 33 → A1 i = A i := fun i hi => by rw [hA1, mm_up_row _ _ _ _ _ hi]
  have cb1 : CB K R C I J A1 B := h.1.fr rfl rfl (rA 2 (by decide)) (rA 3 (by decide)) (rA 4 (by decide)) rfl rfl
  have pl1 : PL lg 1 sw I A1 := ⟨h.2.1.1, h.2.1.2.1, h.2.1.2.2.1, by rw [rA 8 (by decide)]; exact h.2.1.2.2.2⟩
  have ex := sp_exchange 70 mm_R0 e I J A1 B cb1 pl1 w2
  rw [mm_RP_0] at ex
  obtain ⟨I', hI'⟩ : ∃ I', I' = mm_up (mm_up (mm_up I 7 3 (i32 1)) 7 2 (i32 2)) 7 6 (jnd K R C (stN (lgp lg 1 (mirB K R C (lg 0))) 1 0 2) (stN (lgp lg 1 (mirB K R C (lg 0))) 1 1 2)) := ⟨_, rfl⟩
  obtain ⟨J', hJ'⟩ : ∃ J', J' = mm_up (mm_up J 7 4 (stN (lgp lg 1 (mirB K R C (lg 0))) 1 0 2)) 7 5 (stN (lgp lg 1 (mirB K R C (lg 0))) 1 1 2) := ⟨_, rfl⟩
  obtain ⟨A', hA'⟩ : ∃ A', A' = mm_up A1 8 1 (i32 (mirB K R C (lg 0))) := ⟨_, rfl⟩
  have ex' : f_X6_exchange [.ref 7] (79, e, mm_R0, I, J, A1, B) = some (.inl (some (.int (i32 (mirB K R C (lg 0))))), (79, e, mm_R0, I', J', A', B)) := by rw [hI', hJ', hA']; exact ex
  have fv : FV I I' J J' A A' := ⟨fun i hi => by rw [hI', mm_up_row _ _ _ _ _ hi, mm_up_row _ _ _ _ _ hi, mm_up_row _ _ _ _ _ hi], fun i hi => by rw [hJ', mm_up_row _ _ _ _ _ hi, mm_up_row _ _ _ _ _ hi], fun i h1 h2 => by rw [hA', mm_up_row _ _ _ _ _ h1, rA i h2]⟩
  have pl2 : PL (lgp lg 1 (mirB K R C (lg 0))) 2 true I' A' := by
    refine ⟨?_, ?_, by decide, fun i hi => ?_⟩
    · rw [hI', mm_up_ne2 _ _ _ _ _ _ (by decide), mm_up_eq]
    · rw [hI', mm_up_ne2 _ _ _ _ _ _ (by decide), mm_up_ne2 _ _ _ _ _ _ (by decide), mm_up_eq]; rfl
    · unfold lgp
      rw [hA']
      by_cases q : i = 1
      · rw [if_pos q, q, mm_up_eq]
      · rw [if_neg q, mm_up_ne2 _ _ _ _ _ _ q]; exact pl1.2.2.2 i (by omega)
  have cg := h.of I J A B fv pl2 (by rw [hJ', mm_up_ne2 _ _ _ _ _ _ (by decide), mm_up_eq]; rfl) (by rw [hJ', mm_up_eq]; rfl) (by rw [hI', mm_up_eq]; rfl)
  have tc : TC ea tk se pe (upN us 1 0) lo I' A' := t.give I A (p := 1) (fv.1 30 (by decide)) (fv.2.2 31 (by decide) (by decide)) (fv.2.2 32 (by decide) (by decide)) (by rw [hA', mm_up_row _ _ _ _ _ (by decide), hA1])
  refine ⟨I', J', A', ?_, cg, tc, fv⟩
  have mv := sp0_mover e I J A B h
  rw [en_X10_swap, sg_X10_swap_0, sp_winner e I J A B h t hl, mm_aft_v, sg_X10_swap_4, if_pos (show wnr K R C lg 1 sw lo = (-1 : Int32) from hw), h.2.1.1, if_pos (show i32 1 = (1 : Int32) from rfl), mv, mm_aft_v, sg_X10_swap_40, show (1 : Nat) % 2 = 1 from rfl, sp_giveBack e I J A B (p := 1) (by decide), mm_aft_n, sg_X10_swap_43, ← hA1, ex', mm_aft_v, sg_X10_swap_50]
end
section
variable {K R C : Nat} {lg : Nat → Nat} {m : Nat} {sw : Bool} {ea : Nat} {tk : Bool} {se pe us : Nat → Nat} {lo : Nat} {rc : Bool} (k : Nat) (r : Nat → Nat → Value) (e : Nat) (I : Nat → Nat → Int32) (J : Nat → Nat → Int64) (A : Nat → Nat → Int32) (B : Nat → Nat → Int64)
end
