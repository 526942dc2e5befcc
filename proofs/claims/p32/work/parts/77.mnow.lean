/-! the reference: moves, winner, empty cells, groups -/
theorem i32_mod2 {m : Nat} (h : m < 2147483648) : i32 m - i32 m / i32 2 * i32 2 = i32 (m % 2) := by
  have e : i32 m / i32 2 = i32 (m / 2) := by
    apply Int32.toInt_inj.1
    rw [Int32.toInt_div, i32_toInt h, i32_toInt (by decide : 2 < 2147483648), i32_toInt (by omega)]
    have t : (m : Int).tdiv ((2 : Nat) : Int) = ((m / 2 : Nat) : Int) := rfl
    rw [t, Int.bmod_eq_of_le (by omega) (by omega)]
  rw [e, i32_mul, i32_sub (by omega)]
  congr 1
  omega
section
variable (k : Nat) (r : Nat → Nat → Value) (e : Nat) (I : Nat → Nat → Int32) (J : Nat → Nat → Int64) (A : Nat → Nat → Int32) (B : Nat → Nat → Int64)
end
