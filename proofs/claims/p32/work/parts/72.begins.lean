/-! the reference begins -/
theorem mm_up_up {α : Type} (f : Nat → Nat → α) (k p : Nat) (a b : α) : mm_up (mm_up f k p a) k p b = mm_up f k p b := by
  funext i j
  unfold mm_up
  by_cases h : i = k
  · rw [if_pos h, if_pos h]
    by_cases h2 : j = p
    · rw [if_pos h2, if_pos h, if_pos h2]
    · rw [if_neg h2, if_pos h, if_neg h2, if_neg h2]
  · rw [if_neg h, if_neg h, if_neg h]
section
variable (k : Nat) (r : Nat → Nat → Value) (e : Nat) (J : Nat → Nat → Int64)
end
