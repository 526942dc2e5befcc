/-! links in the reference: all fillings, the carrier -/
noncomputable def vl (T : Nat → Prop) (n t r : Nat) : Nat := (if pdec (LH T n t r) = true then 1 else 0) + (if pdec (LG T n t r) = true then 2 else 0)
theorem vl_2 (T : Nat → Prop) (n t r : Nat) : vl T n t r < 2 ↔ ¬ LG T n t r := by
  unfold vl
  cases g : pdec (LG T n t r) with
  | true =>
    have y := pdec_t.1 g
    cases pdec (LH T n t r) <;> simp [y]
  | false =>
    have y : ¬ LG T n t r := fun z => by rw [pdec_t.2 z] at g; cases g
    cases pdec (LH T n t r) <;> simp [y]
theorem vl_1 (T : Nat → Prop) (n t r : Nat) : vl T n t r % 2 = 1 ↔ LH T n t r := by
  unfold vl
  cases g : pdec (LH T n t r) with
  | true =>
    have y := pdec_t.1 g
    cases pdec (LG T n t r) <;> simp [y]
  | false =>
    have y : ¬ LH T n t r := fun z => by rw [pdec_t.2 z] at g; cases g
    cases pdec (LG T n t r) <;> simp [y]
theorem vl_lt (T : Nat → Prop) (n t r : Nat) : vl T n t r < 4 := by
  unfold vl
  cases pdec (LG T n t r) <;> cases pdec (LH T n t r) <;> decide
theorem vl_0 {T : Nat → Prop} {n t r : Nat} (h : pop n r = 0) : vl T n t r = if pdec (T t) = true then 3 else 0 := by
  unfold vl
  rw [show pdec (LH T n t r) = pdec (T t) by rw [Bool.eq_iff_iff, pdec_t, pdec_t, LH_0 h], show pdec (LG T n t r) = pdec (T t) by rw [Bool.eq_iff_iff, pdec_t, pdec_t, LG_0 h]]
  cases pdec (T t) <;> rfl
abbrev VLk (T : Nat → Prop) (n : Nat) (A : Nat → Nat → Int32) (r t : Nat) : Prop := A 52 (cs n r t) = i32 (vl T n t r)
theorem and_lt2 {a b n : Nat} (h : a < 2 ^ n) : a ||| b < 2 ^ n ↔ b < 2 ^ n := by
  constructor
  · intro q; exact Nat.lt_of_le_of_lt Nat.right_le_or q
  · intro q; exact Nat.or_lt_two_pow h q
section
variable {K R C : Nat} (k : Nat) (r : Nat → Nat → Value) (e : Nat) (I : Nat → Nat → Int32) (J : Nat → Nat → Int64) (B : Nat → Nat → Int64)
end
