/-! game: class -/
theorem cC_game (e : Nat) (I : Nat → Nat → Int32) (J : Nat → Nat → Int64) (A : Nat → Nat → Int32) (B : Nat → Nat → Int64) {K R C : Nat} (v : bV K R C = true) (hb : brP (i32 K) (i32 R) (i32 C) = true) (h12 : ∀ a, a < 512 → A 12 a = i32 (ter a)) (h18 : ∀ a, a < 512 → A 18 a = i32 (ter a)) : ∃ I' J' A' B', f_X10_game [.ref 0, .int (i32 K), .int (i32 R), .int (i32 C)] (79, e, mm_R0, I, J, A, B) = some (.inl (some (.int (i32 (bN K R C)))), (79, e, mm_R0, I', J', A', B')) ∧ CG K R C (fun _ => 0) 0 false I' J' A' B' ∧ TC 0 false (fun _ => 0) (fun _ => 0) (fun _ => 0) 0 I' A' ∧ I' 0 9 = bi false ∧ (∀ i, i ≠ 0 → i ≠ 1 → i ≠ 7 → i ≠ 9 → i ≠ 30 → I' i = I i) ∧ (∀ i, i ≠ 1 → i ≠ 7 → J' i = J i) ∧ (∀ i, i ≠ 2 → i ≠ 3 → i ≠ 4 → i ≠ 31 → i ≠ 32 → i ≠ 33 → A' i = A i) ∧ (∀ i, i ≠ 5 → i ≠ 6 → B' i = B i) := by
  obtain ⟨I1, J1, A1, B1, a1, a2, a3, a4, a5, a6⟩ := sp_lay 72 mm_R0 e I J v A B
  rw [mm_RB_0] at a1
  have a1' : f_X1_lay [.ref 1, .int (i32 K), .int (i32 R), .int (i32 C)] (79, e, mm_R0, I, J, A, B) = some (.inl none, (79, e, mm_R0, I1, J1, A1, B1)) := a1
  have bg := sp_begin 70 mm_R0 e I1 J1 A1 B1 a2
  rw [mm_RP_0] at bg
  obtain ⟨I2, hI2⟩ : ∃ I2, I2 = mm_up (mm_up (mm_up I1 7 2 (i32 0)) 7 3 (i32 0)) 7 6 (jnd K R C 0 0) := ⟨_, rfl⟩
  obtain ⟨J2, hJ2⟩ : ∃ J2, J2 = mm_up (mm_up J1 7 4 0) 7 5 0 := ⟨_, rfl⟩
  have bg' : f_X6_begin [.ref 7] (79, e, mm_R0, I1, J1, A1, B1) = some (.inl none, (79, e, mm_R0, I2, J2, A1, B1)) := by rw [hI2, hJ2]; exact bg
  obtain ⟨I3, hI3⟩ : ∃ I3, I3 = mm_up I2 9 4 (i32 0) := ⟨_, rfl⟩
  obtain ⟨I4, hI4⟩ : ∃ I4, I4 = mm_up (mm_up (mm_up (mm_up I3 30 3 (i32 0)) 30 4 (i32 1)) 30 4 (i32 0)) 30 5 iN := ⟨_, rfl⟩
  obtain ⟨A2, hA2⟩ : ∃ A2, A2 = mm_put (mm_put (mm_put A1 31 (fun j => if j < 2 then i32 0 else A1 31 j)) 32 (fun j => if j < 2 then i32 0 else A1 32 j)) 33 (fun j => if j < 2 then i32 0 else A1 33 j) := ⟨_, rfl⟩
  obtain ⟨I5, hI5⟩ : ∃ I5, I5 = mm_up I4 0 9 (i32 0) := ⟨_, rfl⟩
  have ta : f_X8_takeAway [.ref 30] (79, e, mm_R0, I3, J2, A1, B1) = some (.inl none, (79, e, mm_R0, I4, J2, A2, B1)) := by
    rw [en_X8_takeAway, sg_X8_takeAway_0]
    simp only [i32_l]
    rw [sp_start, mm_aft_n, sg_X8_takeAway_7, hI4, hA2]
    rfl
  have i4 : ∀ i, i ≠ 30 → i ≠ 9 → i ≠ 7 → I4 i = I1 i := fun i h1 h2 h3 => by rw [hI4, mm_up_row _ _ _ _ _ h1, mm_up_row _ _ _ _ _ h1, mm_up_row _ _ _ _ _ h1, mm_up_row _ _ _ _ _ h1, hI3, mm_up_row _ _ _ _ _ h2, hI2, mm_up_row _ _ _ _ _ h3, mm_up_row _ _ _ _ _ h3, mm_up_row _ _ _ _ _ h3]
  have i57 : I5 7 = I2 7 := by rw [hI5, mm_up_row _ _ _ _ _ (by decide), hI4, mm_up_row _ _ _ _ _ (by decide), mm_up_row _ _ _ _ _ (by decide), mm_up_row _ _ _ _ _ (by decide), mm_up_row _ _ _ _ _ (by decide), hI3, mm_up_row _ _ _ _ _ (by decide)]
  have i59 : I5 9 4 = i32 0 := by rw [hI5, mm_up_ne1 _ _ _ _ _ _ (by decide), hI4, mm_up_ne1 _ _ _ _ _ _ (by decide), mm_up_ne1 _ _ _ _ _ _ (by decide), mm_up_ne1 _ _ _ _ _ _ (by decide), mm_up_ne1 _ _ _ _ _ _ (by decide), hI3, mm_up_eq]
  have i51 : I5 1 = I1 1 := by rw [hI5, mm_up_row _ _ _ _ _ (by decide), i4 1 (by decide) (by decide) (by decide)]
  have i530 : I5 30 = I4 30 := by rw [hI5, mm_up_row _ _ _ _ _ (by decide)]
  have rA : ∀ i, i ≠ 31 → i ≠ 32 → i ≠ 33 → A2 i = A1 i := fun i h1 h2 h3 => by
    rw [hA2]
    funext j
    rw [mm_put_ne _ _ _ _ _ h3, mm_put_ne _ _ _ _ _ h2, mm_put_ne _ _ _ _ _ h1]
  have rJ : J2 1 = J1 1 := by rw [hJ2, mm_up_row _ _ _ _ _ (by decide), mm_up_row _ _ _ _ _ (by decide)]
  have cb : CB K R C I5 J2 A2 B1 := a2.fr i51 rJ (rA 2 (by decide) (by decide) (by decide)) (rA 3 (by decide) (by decide) (by decide)) (rA 4 (by decide) (by decide) (by decide)) rfl rfl
  refine ⟨I5, J2, A2, B1, ?_, ⟨cb, ⟨?_, ?_, by decide, fun i hi => absurd hi (Nat.not_lt_zero _)⟩, ?_, ?_, ?_, ⟨fun a ha => ?_, Or.inl i59⟩, fun a ha => ?_⟩, ⟨?_, ?_, ?_, fun p hp => ?_⟩, ?_, ?_, ?_, ?_, ?_⟩
  · rw [en_X10_game, sg_X10_game_0, sp_isBoard, mm_aft_v, hb, sg_X10_game_6, if_neg (show ¬ bi true = 0 by decide), a1', mm_aft_n, sg_X10_game_29, bg', mm_aft_n, sg_X10_game_36, en_X0_forget, sg_X0_forget_0]
    simp only [i32_l]
    rw [← hI3, mm_aft_n, sg_X10_game_43, ta, mm_aft_n, sg_X10_game_50]
    simp only [i32_l]
    rw [← hI5, i4 1 (by decide) (by decide) (by decide), a2.cells]
  · rw [i57, hI2, mm_up_ne2 _ _ _ _ _ _ (by decide), mm_up_ne2 _ _ _ _ _ _ (by decide), mm_up_eq]
  · rw [i57, hI2, mm_up_ne2 _ _ _ _ _ _ (by decide), mm_up_eq]; rfl
  · rw [hJ2, mm_up_ne2 _ _ _ _ _ _ (by decide), mm_up_eq]; rfl
  · rw [hJ2, mm_up_eq]; rfl
  · rw [i57, hI2, mm_up_eq]; rfl
  · rw [rA 12 (by decide) (by decide) (by decide), a5 12 (by decide) (by decide) (by decide)]; exact h12 a ha
  · rw [rA 18 (by decide) (by decide) (by decide), a5 18 (by decide) (by decide) (by decide)]; exact h18 a ha
  · rw [i530, hI4, mm_up_ne2 _ _ _ _ _ _ (by decide), mm_up_ne2 _ _ _ _ _ _ (by decide), mm_up_ne2 _ _ _ _ _ _ (by decide), mm_up_eq]
  · rw [i530, hI4, mm_up_ne2 _ _ _ _ _ _ (by decide), mm_up_eq]; rfl
  · rw [i530, hI4, mm_up_eq, if_pos rfl]
  · rw [hA2, mm_put_ne _ _ _ _ _ (by decide), mm_put_ne _ _ _ _ _ (by decide), mm_put_same, mm_put_ne _ _ _ _ _ (by decide), mm_put_same, mm_put_same, if_pos hp, if_pos hp, if_pos hp]
    exact ⟨rfl, rfl, rfl⟩
  · rw [hI5, mm_up_eq]; rfl
  · intro i h0 h1 h7 h9 h30
    rw [hI5, mm_up_row _ _ _ _ _ h0, i4 i h30 h9 h7, a3 i h1]
  · intro i h1 h7
    rw [hJ2, mm_up_row _ _ _ _ _ h7, mm_up_row _ _ _ _ _ h7, a4 i h1]
  · intro i h2 h3 h4 h31 h32 h33
    rw [rA i h31 h32 h33, a5 i h2 h3 h4]
  · exact a6

