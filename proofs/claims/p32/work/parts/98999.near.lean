/-! neighbour and told: both sides -/
section
variable {K R C : Nat} {lg : Nat → Nat} {m : Nat} {sw : Bool} {ea : Nat} {tk : Bool} {se pe us : Nat → Nat} {lo : Nat} (e : Nat) (I : Nat → Nat → Int32) (J : Nat → Nat → Int64) (A : Nat → Nat → Int32) (B : Nat → Nat → Int64)
theorem cC_neighbour_1 (h : CB K R C I J A B) {x y : Int32} (hx : cellP (bN K R C) x = false) : f_X10_neighbour [.ref 0, .int x, .int y] (79, e, mm_R0, I, J, A, B) = some (.inr 1, (79, e + 1, mm_R0, I, J, A, B)) := by
  rw [en_X10_neighbour, sg_X10_neighbour_0, sp_hasCell e I J A B h, mm_aft_v, hx, sg_X10_neighbour_8, if_pos (show bi false = 0 from rfl)]
theorem cC_neighbour_2 (h : CB K R C I J A B) {x y : Int32} (hx : cellP (bN K R C) x = true) (hy : rgP y 0 5 = false) : f_X10_neighbour [.ref 0, .int x, .int y] (79, e, mm_R0, I, J, A, B) = some (.inr 2, (79, e + 1, mm_R0, I, J, A, B)) := by
  rw [en_X10_neighbour, sg_X10_neighbour_0, sp_hasCell e I J A B h, mm_aft_v, hx, sg_X10_neighbour_8, if_neg (show ¬ bi true = 0 by decide), sg_X10_neighbour_31]
  by_cases q : y < 0
  · rw [if_pos q]
  · have q2 := (rg_no hy).resolve_left q
    rw [if_neg q, if_neg (show ¬ y < (6 : Int32) from fun z => by
      rw [Int32.lt_iff_toInt_lt] at z q2
      rw [show (6 : Int32).toInt = 6 from rfl] at z
      rw [show (5 : Int32).toInt = 5 from rfl] at q2
      omega)]
theorem cC_neighbour (h : CB K R C I J A B) {c d : Nat} (hc : c < bN K R C) (hd : d ≤ 5) : f_X10_neighbour [.ref 0, .int (i32 c), .int (i32 d)] (79, e, mm_R0, I, J, A, B) = some (.inl (some (.int (bNx K R C c d))), (79, e, mm_R0, I, J, A, B)) := by
  have hN := bN_le h.v
  rw [en_X10_neighbour, sg_X10_neighbour_0, sp_hasCell e I J A B h, mm_aft_v, cellP_i hN (by omega), decide_eq_true hc, sg_X10_neighbour_8, if_neg (show ¬ bi true = 0 by decide), if_neg (show ¬ i32 d < (0 : Int32) by rw [show (0 : Int32) = i32 0 from rfl, i32_lt (by omega) (by decide)]; omega), if_pos (show i32 d < (6 : Int32) from (i32_lt (b := 6) (by omega) (by decide)).2 (by omega)), sp0_next e I J A B h hc (by omega), mm_aft_v, sg_X10_neighbour_50]
end
section
variable {K R C : Nat} {lg : Nat → Nat} {m : Nat} {sw : Bool} {ea : Nat} {tk : Bool} {se pe us : Nat → Nat} {lo : Nat} (k : Nat) (r : Nat → Nat → Value) (e : Nat) (I : Nat → Nat → Int32) (J : Nat → Nat → Int64) (A : Nat → Nat → Int32) (B : Nat → Nat → Int64)
end
