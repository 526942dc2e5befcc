/-! the reference's beginning as a whole; joining there -/
theorem bi_ok (b : Bool) : bi b = 0 ∨ bi b = 1 := by cases b <;> decide
section
variable (k : Nat) (r : Nat → Nat → Value) (e : Nat) (J : Nat → Nat → Int64)
end
section
variable (k : Nat) (r : Nat → Nat → Value) (e : Nat) (I : Nat → Nat → Int32) (J : Nat → Nat → Int64) (A : Nat → Nat → Int32) (B : Nat → Nat → Int64)
theorem low_lt {l w : Int64} {n : Nat} (h0 : ¬ l = 0) (hl : ∀ c, mb l c = true → c < n) (c : Nat) (q : mb (l &&& (-l)) c = true) (_ : mb w c = true) : c < n := by
  rw [mlo_bit h0, mb_bit _ _ (mlo_lt h0), decide_eq_true_eq] at q
  rw [← q]
  exact hl _ (mlo_mb h0)
end
