/-! told: both sides -/
theorem sN_N {K R C : Nat} {lg : Nat → Nat} {m : Nat} {sw : Bool} (w : WG K R C lg m sw) {p c : Nat} (hp : p < 2) (h : mb (sN lg m sw p) c = true) : c < bN K R C := by
  have hl : ∀ i, i < m → lg i < 64 := fun i hi => by have := w.n36 i hi; omega
  have q : mb (stN lg (kf sw m) 0 m) c || mb (stN lg (kf sw m) 1 m) c := by
    have t : p = 0 ∨ p = 1 := by omega
    rcases t with z | z
    · subst z; rw [show mb (stN lg (kf sw m) 0 m) c = true from h]; rfl
    · subst z; rw [show mb (stN lg (kf sw m) 1 m) c = true from h, Bool.or_true]
  obtain ⟨i, a, _, d⟩ := (mb_st01 w.n36 c).1 q
  rw [← d]
  exact w.2.1 i a
noncomputable def tdV (K R C : Nat) (lg : Nat → Nat) (m : Nat) (sw : Bool) (lo w : Nat) : Int32 := if w = 0 then i32 m else if w = 1 then i32 (m % 2) else if w = 2 then i32 (gn (emp (bN K R C) (sN lg m sw 0) (sN lg m sw 1))) else if w = 3 then jnd K R C (sN lg m sw 0) (sN lg m sw 1) else if w = 4 then wnr K R C lg m sw lo else if w = 5 then i32 (grF (rcB K R C) (sN lg m sw 0) 36 (sN lg m sw 0)) else i32 (grF (rcB K R C) (sN lg m sw 1) 36 (sN lg m sw 1))
theorem rg_out {y : Int32} (hy : rgP y 0 6 = false) : y.toInt < 0 ∨ 6 < y.toInt := by
  rcases rg_no hy with q | q
  · rw [Int32.lt_iff_toInt_lt] at q; exact Or.inl q
  · rw [Int32.lt_iff_toInt_lt] at q; exact Or.inr q
section
variable {K R C : Nat} {lg : Nat → Nat} {m : Nat} {sw : Bool} {ea : Nat} {tk : Bool} {se pe us : Nat → Nat} {lo : Nat} (e : Nat) (I : Nat → Nat → Int32) (J : Nat → Nat → Int64) (A : Nat → Nat → Int32) (B : Nat → Nat → Int64)
theorem sp0_groups (h : CB K R C I J A B) (w : Int64) (hw : ∀ c, mb w c = true → c < bN K R C) : f_X1_groups [.ref 1, .long w] (79, e, mm_R0, I, J, A, B) = some (.inl (some (.int (i32 (grF (rcB K R C) w 36 w)))), (79, e, mm_R0, I, J, A, B)) := by
  have := sp_groups 72 mm_R0 e I J A B h w hw
  rw [mm_RB_0] at this
  exact this
theorem cC_told_1 {y : Int32} (hy : rgP y 0 6 = false) : f_X10_told [.ref 0, .int y] (79, e, mm_R0, I, J, A, B) = some (.inr 2, (79, e + 1, mm_R0, I, J, A, B)) := by
  rw [en_X10_told, sg_X10_told_0, if_pos (rg_out hy), sg_X10_told_114]
theorem cC_told (h : CG K R C lg m sw I J A B) (w : WG K R C lg m sw) (t : TC ea tk se pe us lo I A) (hl : lo ≤ 2) {v : Nat} (hv : v ≤ 6) : f_X10_told [.ref 0, .int (i32 v)] (79, e, mm_R0, I, J, A, B) = some (.inl (some (.int (tdV K R C lg m sw lo v))), (79, e, mm_R0, I, J, A, B)) := by
  have hN := bN_le w.1
  rw [en_X10_told, sg_X10_told_0]
  unfold tdV
  have c : v = 0 ∨ v = 1 ∨ v = 2 ∨ v = 3 ∨ v = 4 ∨ v = 5 ∨ v = 6 := by omega
  rcases c with q | q | q | q | q | q | q <;> subst q
  · show mm_run _ (44, _, _, _) = _
    rw [sg_X10_told_44, h.2.1.1]; rfl
  · show mm_run _ (52, _, _, _) = _
    rw [sg_X10_told_52, sp0_mover e I J A B h, mm_aft_v, sg_X10_told_59]; rfl
  · show mm_run _ (60, _, _, _) = _
    rw [sg_X10_told_60, sp0_empty e I J A B h, mm_aft_v, sg_X10_told_67, sp_bitCount, mm_aft_v, sg_X10_told_70, mcnt_emp hN]; rfl
  · show mm_run _ (71, _, _, _) = _
    rw [sg_X10_told_71, h.2.2.2.2.1]; rfl
  · show mm_run _ (79, _, _, _) = _
    rw [sg_X10_told_79, sp_winner e I J A B h t hl, mm_aft_v, sg_X10_told_83]; rfl
  · show mm_run _ (84, _, _, _) = _
    rw [sg_X10_told_84, h.2.2.1, sp0_groups e I J A B h.1 _ (fun c z => sN_N w (by decide) z), mm_aft_v, sg_X10_told_98]; rfl
  · show mm_run _ (99, _, _, _) = _
    rw [sg_X10_told_99, h.2.2.2.1, sp0_groups e I J A B h.1 _ (fun c z => sN_N w (by decide) z), mm_aft_v, sg_X10_told_113]; rfl
end
section
variable {K R C : Nat} {lg : Nat → Nat} {m : Nat} {sw : Bool} {ea : Nat} {tk : Bool} {se pe us : Nat → Nat} {lo : Nat} (k : Nat) (r : Nat → Nat → Value) (e : Nat) (I : Nat → Nat → Int32) (J : Nat → Nat → Int64) (A : Nat → Nat → Int32) (B : Nat → Nat → Int64)
end
