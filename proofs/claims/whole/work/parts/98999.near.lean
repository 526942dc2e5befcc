/-! neighbour and told: both sides -/
section
variable {K R C : Nat} {lg : Nat → Nat} {m : Nat} {sw : Bool} {ea : Nat} {tk : Bool} {se pe us : Nat → Nat} {lo : Nat} (e : Nat) (I : Nat → Nat → Int32) (J : Nat → Nat → Int64) (A : Nat → Nat → Int32) (B : Nat → Nat → Int64)
theorem cC_neighbour_1 (h : CB K R C I J A B) {x y : Int32} (hx : cellP (bN K R C) x = false) : f_X10_neighbour [.ref 0, .int x, .int y] (65, e, mm_R0, I, J, A, B) = some (.inr 1, (65, e + 1, mm_R0, I, J, A, B)) := by
  rw [en_X10_neighbour, sg_X10_neighbour_0, sp_hasCell e I J A B h, mm_aft_v, hx, sg_X10_neighbour_8, if_pos (show bi false = 0 from rfl)]
theorem cC_neighbour_2 (h : CB K R C I J A B) {x y : Int32} (hx : cellP (bN K R C) x = true) (hy : rgP y 0 5 = false) : f_X10_neighbour [.ref 0, .int x, .int y] (65, e, mm_R0, I, J, A, B) = some (.inr 2, (65, e + 1, mm_R0, I, J, A, B)) := by
  rw [en_X10_neighbour, sg_X10_neighbour_0, sp_hasCell e I J A B h, mm_aft_v, hx, sg_X10_neighbour_8, if_neg (show ¬ bi true = 0 by decide), sg_X10_neighbour_31]
  by_cases q : y < 0
  · rw [if_pos q]
  · have q2 := (rg_no hy).resolve_left q
    rw [if_neg q, if_neg (show ¬ y < (6 : Int32) from fun z => by
      rw [Int32.lt_iff_toInt_lt] at z q2
      rw [show (6 : Int32).toInt = 6 from rfl] at z
      rw [show (5 : Int32).toInt = 5 from rfl] at q2
      omega)]
theorem cC_neighbour (h : CB K R C I J A B) {c d : Nat} (hc : c < bN K R C) (hd : d ≤ 5) : f_X10_neighbour [.ref 0, .int (i32 c), .int (i32 d)] (65, e, mm_R0, I, J, A, B) = some (.inl (some (.int (bNx K R C c d))), (65, e, mm_R0, I, J, A, B)) := by
  have hN := bN_le h.v
  rw [en_X10_neighbour, sg_X10_neighbour_0, sp_hasCell e I J A B h, mm_aft_v, cellP_i hN (by omega), decide_eq_true hc, sg_X10_neighbour_8, if_neg (show ¬ bi true = 0 by decide), if_neg (show ¬ i32 d < (0 : Int32) by rw [show (0 : Int32) = i32 0 from rfl, i32_lt (by omega) (by decide)]; omega), if_pos (show i32 d < (6 : Int32) from (i32_lt (b := 6) (by omega) (by decide)).2 (by omega)), sp0_next e I J A B h hc (by omega), mm_aft_v, sg_X10_neighbour_50]
end
section
variable {K R C : Nat} {lg : Nat → Nat} {m : Nat} {sw : Bool} {ea : Nat} {tk : Bool} {se pe us : Nat → Nat} {lo : Nat} (k : Nat) (r : Nat → Nat → Value) (e : Nat) (I : Nat → Nat → Int32) (J : Nat → Nat → Int64) (A : Nat → Nat → Int32) (B : Nat → Nat → Int64)
theorem MB.th {x : Int32} (h : MB K R C I A B) : MB K R C (mm_up I 39 39 x) A B := h.fr (fun p hp => mm_up_ne2 _ _ _ _ _ _ (by omega)) rfl rfl rfl rfl rfl
theorem cM_neighbour_1 (h : MB K R C I A B) {x y : Int32} (hx : cellP (bN K R C) x = false) : f_X11_neighbour [.ref 39, .int x, .int y] (k + 64, e, (mm_RM r), I, J, A, B) = some (.inl (some (.int (i32 0))), (k + 64, e, (mm_RM r), mm_up I 39 39 (i32 1), J, A, B)) := by
  rw [en_X11_neighbour, sg_X11_neighbour_0, sp_MisCellP k r e I J B A h, mm_aft_v, hx, sg_X11_neighbour_6, sp_Masks, mm_aft_v, sg_X11_neighbour_9, if_pos (show bi false = 0 from rfl)]
  rfl
theorem cM_neighbour_2 (h : MB K R C I A B) {x y : Int32} (hx : cellP (bN K R C) x = true) (hy : rgP y 0 5 = false) : f_X11_neighbour [.ref 39, .int x, .int y] (k + 64, e, (mm_RM r), I, J, A, B) = some (.inl (some (.int (i32 0))), (k + 64, e, (mm_RM r), mm_up (mm_up I 39 39 (i32 0)) 39 39 (i32 2), J, A, B)) := by
  rw [en_X11_neighbour, sg_X11_neighbour_0, sp_MisCellP k r e I J B A h, mm_aft_v, hx, sg_X11_neighbour_6, sp_Masks, mm_aft_v, sg_X11_neighbour_9, if_neg (show ¬ bi true = 0 by decide), sp_Min, mm_aft_v]
  show mm_run _ (20, _, [.int (bi (rgP y 0 5))], _) = _
  rw [hy, sg_X11_neighbour_20, if_pos (show bi false = 0 from rfl), sp_Mfails, mm_aft_v, sg_X11_neighbour_42]
  rfl
theorem cM_neighbour (h : MB K R C I A B) {c d : Nat} (hc : c < bN K R C) (hd : d ≤ 5) : f_X11_neighbour [.ref 39, .int (i32 c), .int (i32 d)] (k + 64, e, (mm_RM r), I, J, A, B) = some (.inl (some (.int (bNx K R C c d))), (k + 64, e, (mm_RM r), mm_up I 39 39 (i32 0), J, A, B)) := by
  have hN := bN_le h.v
  have nx := h.nx c d hc (by omega)
  have hy : rgP (i32 d) 0 5 = true := by
    show rgP (i32 d) (i32 0) (i32 5) = true
    rw [rg_ok (by decide) (by decide) (by omega), decide_eq_true (Nat.zero_le _), decide_eq_true hd]; rfl
  rw [en_X11_neighbour, sg_X11_neighbour_0, sp_MisCellP k r e I J B A h, mm_aft_v, cellP_i hN (by omega), decide_eq_true hc, sg_X11_neighbour_6, sp_Masks, mm_aft_v, sg_X11_neighbour_9, if_neg (show ¬ bi true = 0 by decide), sp_Min, mm_aft_v]
  show mm_run _ (20, _, [.int (bi (rgP (i32 d) 0 5))], _) = _
  rw [hy, sg_X11_neighbour_20, if_neg (show ¬ bi true = 0 by decide), show (6 : Int32) = i32 6 from rfl, i32_mul, i32_add, if_pos ((i32_in (by omega)).2 (by omega)), i32_ix (by omega), nx, sg_X11_neighbour_42]
  rfl
end
