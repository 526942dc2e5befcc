/-! undo: both sides -/
def swB (sw : Bool) (m : Nat) : Bool := sw && Nat.blt 1 (m - 1)
theorem swB_cases {sw : Bool} {m : Nat} (h : sw = true → 2 ≤ m) (h0 : 0 < m) : (sw = true ∧ m = 2 ∧ swB sw m = false) ∨ (swB sw m = sw ∧ kf (swB sw m) (m - 1) = kf sw m ∧ (sw = true → 3 ≤ m)) := by
  cases sw with
  | false => exact Or.inr ⟨rfl, rfl, fun z => by cases z⟩
  | true =>
    have h2 := h rfl
    by_cases q : m = 2
    · subst q; exact Or.inl ⟨rfl, rfl, rfl⟩
    · have b1 : Nat.blt 1 (m - 1) = true := by rw [Nat.blt_eq]; omega
      have b2 : Nat.blt 1 m = true := by rw [Nat.blt_eq]; omega
      refine Or.inr ⟨?_, ?_, fun _ => by omega⟩
      · unfold swB; rw [b1]; rfl
      · unfold swB kf; rw [b1, b2]; rfl
theorem WG.undo {K R C : Nat} {lg : Nat → Nat} {m : Nat} {sw : Bool} (w : WG K R C lg m sw) (h0 : 0 < m) : WG K R C lg (m - 1) (swB sw m) := by
  refine ⟨w.1, fun i hi => w.2.1 i (by omega), fun i j h1 h2 h3 => ?_, fun z => ?_⟩
  · rcases swB_cases w.2.2.2 h0 with ⟨a, b, c⟩ | ⟨a, b, c⟩
    · omega
    · rw [b] at h1
      exact w.2.2.1 i j h1 h2 (by omega)
  · rcases swB_cases w.2.2.2 h0 with ⟨a, b, c⟩ | ⟨a, b, c⟩
    · rw [c] at z; cases z
    · rw [a] at z; have := c z; omega
section
variable {K R C : Nat} {lg : Nat → Nat} {m : Nat} {sw : Bool} {ea : Nat} {tk : Bool} {se pe us : Nat → Nat} {lo : Nat} {rc : Bool} (e : Nat) (I : Nat → Nat → Int32) (J : Nat → Nat → Int64) (A : Nat → Nat → Int32) (B : Nat → Nat → Int64)
theorem cC_undo_no (h : CG K R C lg m sw I J A B) (t : TC ea tk se pe us lo I A) (hl : lo ≤ 2) (hr : I 0 9 = bi rc) (no : m = 0 ∨ lo ≠ 0 ∨ rc = true) : f_X10_undo [.ref 0] (79, e, mm_R0, I, J, A, B) = some (.inr 3, (79, e + 1, mm_R0, I, J, A, B)) := by
  have hm := h.2.1.2.2.1
  rw [en_X10_undo, sg_X10_undo_0, h.2.1.1, t.2.2.1, hr, sg_X10_undo_28]
  by_cases q : m = 0
  · rw [if_pos (show i32 m = 0 by rw [q]; rfl)]
  · rw [if_neg (show ¬ i32 m = 0 by rw [show (0 : Int32) = i32 0 from rfl, i32_eq (by omega) (by decide)]; exact q)]
    by_cases y : lo = 0
    · rw [if_pos y, if_pos (show iN = (-1 : Int32) from rfl), (no.resolve_left q).resolve_left (fun z => z y), if_neg (show ¬ bi true = 0 by decide)]
    · rw [if_neg y, if_neg (show ¬ i32 (lo - 1) = (-1 : Int32) from fun z => (iN_ne (a := lo - 1) (by omega)).1 z)]
theorem cC_undo (h : CG K R C lg m sw I J A B) (t : TC ea tk se pe us 0 I A) (hr : I 0 9 = bi false) (h0 : 0 < m) : ∃ I' J', f_X10_undo [.ref 0] (79, e, mm_R0, I, J, A, B) = some (.inl (some (.int (i32 (m - 1)))), (79, e, mm_R0, I', J', A, B)) ∧ CG K R C lg (m - 1) (swB sw m) I' J' A B ∧ FV I I' J J' A A := by
  have hm := h.2.1.2.2.1
  have tb := sp_takeBack 70 mm_R0 e I J A B h.1 h.2.1 h0
  rw [mm_RP_0] at tb
  obtain ⟨I', hI'⟩ : ∃ I', I' = mm_up (mm_up (mm_up I 7 2 (i32 (m - 1))) 7 3 (bi (sw && Nat.blt 1 (m - 1)))) 7 6 (jnd K R C (stN lg (kf (sw && Nat.blt 1 (m - 1)) (m - 1)) 0 (m - 1)) (stN lg (kf (sw && Nat.blt 1 (m - 1)) (m - 1)) 1 (m - 1))) := ⟨_, rfl⟩
  obtain ⟨J', hJ'⟩ : ∃ J', J' = mm_up (mm_up J 7 4 (stN lg (kf (sw && Nat.blt 1 (m - 1)) (m - 1)) 0 (m - 1))) 7 5 (stN lg (kf (sw && Nat.blt 1 (m - 1)) (m - 1)) 1 (m - 1)) := ⟨_, rfl⟩
  have tb' : f_X6_takeBack [.ref 7] (79, e, mm_R0, I, J, A, B) = some (.inl none, (79, e, mm_R0, I', J', A, B)) := by rw [hI', hJ']; exact tb
  have fv : FV I I' J J' A A := ⟨fun i hi => by rw [hI', mm_up_row _ _ _ _ _ hi, mm_up_row _ _ _ _ _ hi, mm_up_row _ _ _ _ _ hi], fun i hi => by rw [hJ', mm_up_row _ _ _ _ _ hi, mm_up_row _ _ _ _ _ hi], fun _ _ _ => rfl⟩
  have i2 : I' 7 2 = i32 (m - 1) := by rw [hI', mm_up_ne2 _ _ _ _ _ _ (by decide), mm_up_ne2 _ _ _ _ _ _ (by decide), mm_up_eq]
  have pl : PL lg (m - 1) (swB sw m) I' A := ⟨i2, by rw [hI', mm_up_ne2 _ _ _ _ _ _ (by decide), mm_up_eq]; rfl, by omega, fun i hi => h.2.1.2.2.2 i (by omega)⟩
  refine ⟨I', J', ?_, h.of I J A B fv pl (by rw [hJ', mm_up_ne2 _ _ _ _ _ _ (by decide), mm_up_eq]; rfl) (by rw [hJ', mm_up_eq]; rfl) (by rw [hI', mm_up_eq]; rfl), fv⟩
  rw [en_X10_undo, sg_X10_undo_0, h.2.1.1, t.2.2.1, hr, if_neg (show ¬ i32 m = 0 by rw [show (0 : Int32) = i32 0 from rfl, i32_eq (by omega) (by decide)]; omega), if_pos rfl, if_pos (show iN = (-1 : Int32) from rfl), if_pos (show bi false = 0 from rfl), tb', mm_aft_n, sg_X10_undo_45, i2]
end
section
variable {K R C : Nat} {lg : Nat → Nat} {m : Nat} {sw : Bool} {ea : Nat} {tk : Bool} {se pe us : Nat → Nat} {lo : Nat} {rc : Bool} (k : Nat) (r : Nat → Nat → Value) (e : Nat) (I : Nat → Nat → Int32) (J : Nat → Nat → Int64) (A : Nat → Nat → Int32) (B : Nat → Nat → Int64)
end
