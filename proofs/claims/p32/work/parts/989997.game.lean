/-! game: which boards there are; class -/
def brP (x1 x2 x3 : Int32) : Bool := rgP x1 0 2 && rgP x2 2 6 && (if x1 = 1 then decide (x3 = x2) else if x1 = 2 then rgP x3 3 6 else rgP x3 2 6)
theorem br_cases {x1 x2 x3 : Int32} (h : brP x1 x2 x3 = true) : ∃ K R C, bV K R C = true ∧ x1 = i32 K ∧ x2 = i32 R ∧ x3 = i32 C := by
  unfold brP at h
  rw [Bool.and_eq_true, Bool.and_eq_true] at h
  obtain ⟨⟨h1, h2⟩, h3⟩ := h
  obtain ⟨K, k1, k2, k3⟩ := rg_cases (lo := 0) (hi := 2) (by decide) (by decide) h1
  obtain ⟨R, r1, r2, r3⟩ := rg_cases (lo := 2) (hi := 6) (by decide) (by decide) h2
  have keq : ∀ a : Nat, a < 100 → (i32 K = i32 a ↔ K = a) := fun a ha => i32_eq (by omega) (by omega)
  rw [k3] at h3
  have c : K = 0 ∨ K = 1 ∨ K = 2 := by omega
  rcases c with q | q | q <;> subst q
  · rw [if_neg (show ¬ i32 0 = (1 : Int32) by decide), if_neg (show ¬ i32 0 = (2 : Int32) by decide)] at h3
    obtain ⟨C, c1, c2, c3⟩ := rg_cases (lo := 2) (hi := 6) (by decide) (by decide) h3
    refine ⟨0, R, C, ?_, k3, r3, c3⟩
    simp only [bV, Bool.and_eq_true, Nat.blt_eq, Nat.ble_eq]
    exact ⟨⟨⟨⟨by decide, r1⟩, r2⟩, c2⟩, by show Nat.ble 2 C = true; rw [Nat.ble_eq]; exact c1⟩
  · rw [if_pos (show i32 1 = (1 : Int32) from rfl), decide_eq_true_eq] at h3
    refine ⟨1, R, R, ?_, k3, r3, by rw [h3]; exact r3⟩
    simp only [bV, Bool.and_eq_true, Nat.blt_eq, Nat.ble_eq]
    exact ⟨⟨⟨⟨by decide, r1⟩, r2⟩, r2⟩, by show Nat.beq R R = true; exact Nat.beq_refl R⟩
  · rw [if_neg (show ¬ i32 2 = (1 : Int32) by decide), if_pos (show i32 2 = (2 : Int32) from rfl)] at h3
    obtain ⟨C, c1, c2, c3⟩ := rg_cases (lo := 3) (hi := 6) (by decide) (by decide) h3
    refine ⟨2, R, C, ?_, k3, r3, c3⟩
    simp only [bV, Bool.and_eq_true, Nat.blt_eq, Nat.ble_eq]
    exact ⟨⟨⟨⟨by decide, r1⟩, r2⟩, c2⟩, by show Nat.ble 3 C = true; rw [Nat.ble_eq]; exact c1⟩
theorem sp_isBoard (S : mm_S) (x1 x2 x3 : Int32) : f_X10_isBoard [.int x1, .int x2, .int x3] S = some (.inl (some (.int (bi (brP x1 x2 x3)))), S) := by
  have e65 : ∀ b : Bool, mm_run (mm_pr tb_X10_isBoard) (65, [some (.int x1), some (.int x2), some (.int x3)], [.int (bi b)], S) = some (.inl (some (.int (bi b))), S) := fun b => by rw [sg_X10_isBoard_65, if_pos (bi_ok b)]
  have e51 : ∀ y : Int32, mm_run (mm_pr tb_X10_isBoard) (51, [some (.int x1), some (.int x2), some (.int x3)], [.int y, .int x3], S) = some (.inl (some (.int (bi (rgP x3 y 6)))), S) := by
    intro y
    rw [sg_X10_isBoard_51, sg_X10_isBoard_64]
    unfold rgP
    by_cases q : x3 < y
    · rw [if_pos q, decide_eq_true q]; exact e65 false
    · rw [if_neg q, decide_eq_false q]
      by_cases p : (6 : Int32) < x3
      · rw [if_pos p, decide_eq_true p]; exact e65 false
      · rw [if_neg p, decide_eq_false p]; exact e65 true
  rw [en_X10_isBoard, sg_X10_isBoard_0, sg_X10_isBoard_20]
  unfold brP
  by_cases q1 : x1 < 0
  · rw [if_pos q1, show rgP x1 0 2 = false by unfold rgP; rw [decide_eq_true q1]; rfl]; rfl
  · rw [if_neg q1]
    by_cases q2 : (2 : Int32) < x1
    · rw [if_pos q2, show rgP x1 0 2 = false by unfold rgP; rw [decide_eq_true q2, Bool.not_true, Bool.and_false]]; rfl
    · rw [if_neg q2, show rgP x1 0 2 = true by unfold rgP; rw [decide_eq_false q1, decide_eq_false q2]; rfl, Bool.true_and]
      by_cases q3 : x2 < 2
      · rw [if_pos q3, show rgP x2 2 6 = false by unfold rgP; rw [decide_eq_true q3]; rfl]; rfl
      · rw [if_neg q3]
        by_cases q4 : (6 : Int32) < x2
        · rw [if_pos q4, show rgP x2 2 6 = false by unfold rgP; rw [decide_eq_true q4, Bool.not_true, Bool.and_false]]; rfl
        · rw [if_neg q4, show rgP x2 2 6 = true by unfold rgP; rw [decide_eq_false q3, decide_eq_false q4]; rfl, Bool.true_and]
          by_cases q5 : x1 = 1
          · rw [if_pos q5, if_pos q5]
            by_cases q6 : x3 = x2
            · rw [if_pos q6, decide_eq_true q6]; exact e65 true
            · rw [if_neg q6, decide_eq_false q6]; exact e65 false
          · rw [if_neg q5, if_neg q5]
            by_cases q6 : x1 = 2
            · rw [if_pos q6, if_pos q6]; exact e51 3
            · rw [if_neg q6, if_neg q6]; exact e51 2
theorem cC_game_1 (e : Nat) (I : Nat → Nat → Int32) (J : Nat → Nat → Int64) (A : Nat → Nat → Int32) (B : Nat → Nat → Int64) {x1 x2 x3 : Int32} (hx : brP x1 x2 x3 = false) : f_X10_game [.ref 0, .int x1, .int x2, .int x3] (79, e, mm_R0, I, J, A, B) = some (.inr 2, (79, e + 1, mm_R0, I, J, A, B)) := by
  rw [en_X10_game, sg_X10_game_0, sp_isBoard, mm_aft_v, hx, sg_X10_game_6, if_pos (show bi false = 0 from rfl)]

