/-! the law's body: the script, its end -/
def mm_scr (n Ln : Nat) (xs : Nat → Int32) : mm_I := fun L st S => match st with
  | .int i :: .ref q :: r => bif Nat.beq q 2000 then (if 0 ≤ i.toInt ∧ i.toInt < Ln then some (.inl (n, L, .int (xs i.toInt.toNat) :: r, S)) else none) else none
  | _ => none
def mm_scl (n Ln : Nat) : mm_I := fun L st S => match st with
  | .ref q :: r => bif Nat.beq q 2000 then some (.inl (n, L, .int (Int32.ofNat Ln) :: r, S)) else none
  | _ => none
theorem mm_n_scr (n Ln : Nat) (xs : Nat → Int32) : mm_mn (mm_scr n Ln xs) := by
  intro L st S
  constructor <;> intro z e <;> (unfold mm_scr at e) <;> (try simp only [Bool.cond_eq_ite] at e) <;> (repeat' split at e) <;> first | (cases e; done) | (cases e; exact ⟨Nat.le_refl _, Nat.le_refl _⟩)
theorem mm_n_scl (n Ln : Nat) : mm_mn (mm_scl n Ln) := by
  intro L st S
  constructor <;> intro z e <;> (unfold mm_scl at e) <;> (try simp only [Bool.cond_eq_ite] at e) <;> (repeat' split at e) <;> first | (cases e; done) | (cases e; exact ⟨Nat.le_refl _, Nat.le_refl _⟩)
section LAWROWS
variable {x : mm_cx} {Q : State → Prop} {Tg : mm_R} {pc : Nat}
theorem mm_r_scr (X : mm_X x) {b Ln : Nat} {xs : Nat → Int32} (hX : va_X b Ln xs (mm_xs x) (mm_xs x).heap) (hbl : b < (mm_xs x).heap.size) (hb2 : mm_xd x 2000 = b) (d : decode (mm_xk x) pc = .ok (.iaload, 1)) (hbA : ¬ mm_xA x b := by exact Nat.not_le.mpr (by assumption)) : mm_row x Q Tg pc (mm_scr (pc + 1) Ln xs) := by
  intro L st S
  unfold mm_scr
  split
  · next i q r =>
    cases h : Nat.beq q 2000 with
    | false => exact ⟨fun c' e => (by cases e), fun r e => (by cases e)⟩
    | true =>
      have hq := Nat.eq_of_beq_eq_true h
      subst hq
      rw [cond_true]
      by_cases hi : 0 ≤ i.toInt ∧ i.toInt < Ln
      · rw [if_pos hi]
        refine ⟨fun c' e => ?_, fun r e => (by cases e)⟩
        cases e
        refine ⟨mm_le.rf S, fun ad H locs cells slots ls hR _ kk => ?_⟩
        have k1 := kk ad H locs cells slots ls (by
          obtain ⟨r1, r2, r3, r4, r5, r6, r7, r8, r9, r10, r11⟩ := hR
          refine ⟨r1, r2, r3, r4, r5, r6, r7, fun w hm => ?_, r9, r10, r11⟩
          rcases List.mem_cons.mp hm with e | e
          · rw [e]; exact fun j e => (by cases e)
          · exact r8 w (List.mem_cons_of_mem _ (List.mem_cons_of_mem _ e)))
        have e2 : ad 2000 = b := by rw [hR.2.2.2.2.2.2.2.2.2.2.2 2000 (by decide), hb2]
        show mm_W x H locs cells slots Q (F0 (mm_xm x) pc ls (.int i :: .ref (ad 2000) :: r.map (mm_cv ad)))
        rw [e2]
        exact va_sld X.1 X.2.1 hX hbl hbA hR.2.2.1 (mm_vp hi) d k1
      · rw [if_neg hi]
        exact ⟨fun c' e => (by cases e), fun r e => (by cases e)⟩
  · exact ⟨fun c' e => (by cases e), fun r e => (by cases e)⟩
theorem mm_r_scl (X : mm_X x) {b Ln : Nat} {xs : Nat → Int32} (hX : va_X b Ln xs (mm_xs x) (mm_xs x).heap) (hbl : b < (mm_xs x).heap.size) (hb2 : mm_xd x 2000 = b) (d : decode (mm_xk x) pc = .ok (.arraylength, 1)) (hbA : ¬ mm_xA x b := by exact Nat.not_le.mpr (by assumption)) : mm_row x Q Tg pc (mm_scl (pc + 1) Ln) := by
  intro L st S
  unfold mm_scl
  split
  · next q r =>
    cases h : Nat.beq q 2000 with
    | false => exact ⟨fun c' e => (by cases e), fun r e => (by cases e)⟩
    | true =>
      have hq := Nat.eq_of_beq_eq_true h
      subst hq
      rw [cond_true]
      refine ⟨fun c' e => ?_, fun r e => (by cases e)⟩
      cases e
      refine ⟨mm_le.rf S, fun ad H locs cells slots ls hR _ kk => ?_⟩
      have k1 := kk ad H locs cells slots ls (by
        obtain ⟨r1, r2, r3, r4, r5, r6, r7, r8, r9, r10, r11⟩ := hR
        refine ⟨r1, r2, r3, r4, r5, r6, r7, fun w hm => ?_, r9, r10, r11⟩
        rcases List.mem_cons.mp hm with e | e
        · rw [e]; exact fun j e => (by cases e)
        · exact r8 w (List.mem_cons_of_mem _ e))
      have e2 : ad 2000 = b := by rw [hR.2.2.2.2.2.2.2.2.2.2.2 2000 (by decide), hb2]
      show mm_W x H locs cells slots Q (F0 (mm_xm x) pc ls (.ref (ad 2000) :: r.map (mm_cv ad)))
      rw [e2]
      exact va_slen X.1 X.2.1 hX hbl hbA hR.2.2.1 d k1
  · exact ⟨fun c' e => (by cases e), fun r e => (by cases e)⟩
/-- how the law ends: with 1 -/
def mm_lawend (x : mm_cx) (Q : State → Prop) (Tg : mm_R) : Prop := Tg.1 = .inl (some (.int 1)) ∧ ∀ pc H locs cells slots ls, decode (mm_xk x) pc = .ok (.ireturn, 1) → va_S (mm_xA x) (mm_xs x).heap H locs → cells ≤ (mm_xR x).cells → slots ≤ (mm_xR x).slots → mm_W x H locs cells slots Q (F0 (mm_xm x) pc ls [.int 1])
theorem mm_r_lawret (X : mm_X x) (he : mm_lawend x Q Tg) {b : Nat} (_ : mm_xd x 2000 = b) (d : decode (mm_xk x) pc = .ok (.ireturn, 1)) : mm_row x Q Tg pc mm_rtZ := by
  intro L st S
  unfold mm_rtZ
  split
  · next v =>
    by_cases hv : v = 0 ∨ v = 1
    · rw [if_pos hv]
      refine ⟨fun c' e => (by cases e), fun r e => ?_⟩
      cases e
      refine ⟨mm_le.rf S, fun hT ad H locs cells slots ls hR hrm => ?_⟩
      have h1 := he.1
      rw [← hT] at h1
      have h1 : (Sum.inl (some (Value.int v)) : Option Value ⊕ Nat) = .inl (some (.int 1)) := h1
      cases h1
      refine he.2 pc H locs cells slots ls d hR.2.2.1 ?_ ?_
      · rw [hR.2.2.2.2.1]; exact hrm.1
      · rw [hR.2.2.2.2.2.1]; exact hrm.2
    · rw [if_neg hv]
      exact ⟨fun c' e => (by cases e), fun r e => (by cases e)⟩
  · exact ⟨fun c' e => (by cases e), fun r e => (by cases e)⟩
end LAWROWS
