/-! game: reference -/
section
variable (k : Nat) (r : Nat → Nat → Value) (e : Nat) (I : Nat → Nat → Int32) (J : Nat → Nat → Int64) (A : Nat → Nat → Int32) (B : Nat → Nat → Int64)
theorem cM_game_ask (x1 x2 x3 : Int32) : ∃ o4 : Int32, f_X11_game [.ref 39, .int x1, .int x2, .int x3] (k + 64, e, (mm_RM r), I, J, A, B) = mm_run (mm_pr tb_X11_game) (75, [some (.ref 39), some (.int x1), some (.int x2), some (.int x3), some (.int o4)], [.int (bi (brP x1 x2 x3))], (k + 64, e, (mm_RM r), mm_up I 39 39 (bi (!brP x1 x2 x3)), J, A, B)) := by
  have e67 : ∀ (b : Bool) (x4 : Int32), mm_run (mm_pr tb_X11_game) (67, [some (.ref 39), some (.int x1), some (.int x2), some (.int x3), some (.int x4)], [.int (bi b)], (k + 64, e, (mm_RM r), I, J, A, B)) = mm_run (mm_pr tb_X11_game) (75, [some (.ref 39), some (.int x1), some (.int x2), some (.int x3), some (.int (bi b))], [.int (bi b)], (k + 64, e, (mm_RM r), mm_up I 39 39 (bi (!b)), J, A, B)) := by
    intro b x4
    rw [sg_X11_game_67, sp_Masks, mm_aft_v]
  have e54 : ∀ (y x4 : Int32), mm_run (mm_pr tb_X11_game) (54, [some (.ref 39), some (.int x1), some (.int x2), some (.int x3), some (.int x4)], [.int y, .int x3], (k + 64, e, (mm_RM r), I, J, A, B)) = mm_run (mm_pr tb_X11_game) (75, [some (.ref 39), some (.int x1), some (.int x2), some (.int x3), some (.int (bi (rgP x3 y 6)))], [.int (bi (rgP x3 y 6))], (k + 64, e, (mm_RM r), mm_up I 39 39 (bi (!rgP x3 y 6)), J, A, B)) := by
    intro y x4
    rw [sg_X11_game_54, sp_Min, mm_aft_v]
    show mm_run _ (59, _, [.int (bi (rgP x3 y 6))], _) = _
    rw [sg_X11_game_59, sg_X11_game_66, sg_X11_game_62]
    cases rgP x3 y 6 with
    | false => rw [if_pos (show bi false = 0 from rfl)]; exact e67 false x4
    | true => rw [if_neg (show ¬ bi true = 0 by decide)]; exact e67 true x4
  have e24 : ∀ b : Bool, mm_run (mm_pr tb_X11_game) (24, [some (.ref 39), some (.int x1), some (.int x2), some (.int x3), none], [.int (bi b)], (k + 64, e, (mm_RM r), I, J, A, B)) = if b = true then (if x1 = (1 : Int32) then (if x3 = x2 then (mm_run (mm_pr tb_X11_game) (62, [some (.ref 39), some (.int x1), some (.int x2), some (.int x3), some (.int (bi b))], [], (k + 64, e, (mm_RM r), I, J, A, B))) else (mm_run (mm_pr tb_X11_game) (66, [some (.ref 39), some (.int x1), some (.int x2), some (.int x3), some (.int (bi b))], [], (k + 64, e, (mm_RM r), I, J, A, B)))) else (if x1 = 0 then (mm_run (mm_pr tb_X11_game) (54, [some (.ref 39), some (.int x1), some (.int x2), some (.int x3), some (.int (bi b))], [.int (2 : Int32), .int x3], (k + 64, e, (mm_RM r), I, J, A, B))) else (mm_run (mm_pr tb_X11_game) (54, [some (.ref 39), some (.int x1), some (.int x2), some (.int x3), some (.int (bi b))], [.int (3 : Int32), .int x3], (k + 64, e, (mm_RM r), I, J, A, B))))) else (mm_run (mm_pr tb_X11_game) (66, [some (.ref 39), some (.int x1), some (.int x2), some (.int x3), some (.int (bi b))], [], (k + 64, e, (mm_RM r), I, J, A, B))) := by
    intro b
    rw [sg_X11_game_24]
    cases b with
    | false => rw [if_pos (show bi false = 0 from rfl), if_neg (show ¬ false = true by decide)]
    | true => rw [if_neg (show ¬ bi true = 0 by decide), if_pos rfl]
  have no : ∃ o4 : Int32, mm_run (mm_pr tb_X11_game) (24, [some (.ref 39), some (.int x1), some (.int x2), some (.int x3), none], [.int (bi false)], (k + 64, e, (mm_RM r), I, J, A, B)) = mm_run (mm_pr tb_X11_game) (75, [some (.ref 39), some (.int x1), some (.int x2), some (.int x3), some (.int o4)], [.int (bi false)], (k + 64, e, (mm_RM r), mm_up I 39 39 (bi (!false)), J, A, B)) := by
    refine ⟨bi false, ?_⟩
    rw [e24 false, if_neg (show ¬ false = true by decide), sg_X11_game_66]
    exact e67 false _
  rw [en_X11_game, sg_X11_game_0, sp_Min, mm_aft_v]
  show ∃ o4 : Int32, mm_run _ (6, _, [.int (bi (rgP x1 0 2))], _) = _
  rw [sg_X11_game_6, sg_X11_game_23]
  unfold brP
  cases q1 : rgP x1 0 2 with
  | false => rw [if_pos (show bi false = 0 from rfl), Bool.false_and, Bool.false_and]; exact no
  | true =>
    rw [if_neg (show ¬ bi true = 0 by decide), sp_Min, mm_aft_v, Bool.true_and]
    show ∃ o4 : Int32, mm_run _ (16, _, [.int (bi (rgP x2 2 6))], _) = _
    rw [sg_X11_game_16, sg_X11_game_23]
    cases q2 : rgP x2 2 6 with
    | false => rw [if_pos (show bi false = 0 from rfl), Bool.false_and]; exact no
    | true =>
      rw [if_neg (show ¬ bi true = 0 by decide), Bool.true_and]
      have st := e24 true
      rw [if_pos rfl] at st
      have st' : mm_run (mm_pr tb_X11_game) (24, [some (.ref 39), some (.int x1), some (.int x2), some (.int x3), none], [.int (1 : Int32)], (k + 64, e, (mm_RM r), I, J, A, B)) = _ := st
      rw [st']
      by_cases q5 : x1 = 1
      · rw [if_pos q5, if_pos q5]
        by_cases q6 : x3 = x2
        · rw [if_pos q6, decide_eq_true q6, sg_X11_game_62]
          exact ⟨_, e67 true _⟩
        · rw [if_neg q6, decide_eq_false q6, sg_X11_game_66]
          exact ⟨_, e67 false _⟩
      · obtain ⟨K, k1, k2, k3⟩ := rg_cases (lo := 0) (hi := 2) (by decide) (by decide) q1
        rw [if_neg q5, if_neg q5]
        by_cases q6 : x1 = 2
        · rw [if_neg (show ¬ x1 = 0 by rw [q6]; decide), if_pos q6]
          exact ⟨_, e54 3 _⟩
        · have : x1 = 0 := by
            have c : K = 0 ∨ K = 1 ∨ K = 2 := by omega
            rcases c with z | z | z
            · rw [k3, z]; rfl
            · exact absurd (show x1 = 1 by rw [k3, z]; rfl) q5
            · exact absurd (show x1 = 2 by rw [k3, z]; rfl) q6
          rw [if_pos this, if_neg q6]
          exact ⟨_, e54 2 _⟩
theorem cM_game_1 {x1 x2 x3 : Int32} (hx : brP x1 x2 x3 = false) : f_X11_game [.ref 39, .int x1, .int x2, .int x3] (k + 64, e, (mm_RM r), I, J, A, B) = some (.inl (some (.int (i32 0))), (k + 64, e, (mm_RM r), mm_up I 39 39 (i32 1), J, A, B)) := by
  obtain ⟨o4, h⟩ := cM_game_ask k r e I J A B x1 x2 x3
  rw [h, hx, sg_X11_game_75, if_pos (show bi false = 0 from rfl)]
  rfl
theorem cM_game {K R C : Nat} (v : bV K R C = true) (hb : brP (i32 K) (i32 R) (i32 C) = true) (h51 : ∀ j, j < 10 → A 51 j = i32 (3 ^ j)) : ∃ I' A' B', f_X11_game [.ref 39, .int (i32 K), .int (i32 R), .int (i32 C)] (k + 64, e, (mm_RM r), I, J, A, B) = some (.inl (some (.int (i32 (bN K R C)))), (k + 64, e, (mm_RM r), I', J, A', B')) ∧ I' 39 39 = i32 0 ∧ MG K R C (fun _ => 0) 0 false I' A' B' ∧ TM 0 false (fun _ => 0) (fun _ => 0) (fun _ => 0) 0 I' A' ∧ I' 39 14 = bi false ∧ (∀ i, i ≠ 39 → I' i = I i) ∧ (∀ p, 16 ≤ p → p ≠ 39 → I' 39 p = I 39 p) ∧ (∀ i, i ≠ 40 → i ≠ 41 → i ≠ 42 → i ≠ 47 → i ≠ 48 → i ≠ 49 → A' i = A i) ∧ (∀ i, i ≠ 43 → i ≠ 44 → i ≠ 45 → B' i = B i) := by
  obtain ⟨o4, h⟩ := cM_game_ask k r e I J A B (i32 K) (i32 R) (i32 C)
  obtain ⟨I', A', B', a1, a2, ⟨b1, b2, b3, b4, b5, b6, b7, b8⟩, a3, a4, a5, a6⟩ := sp_begins k r e J (mm_up I 39 39 (i32 0)) A B v
  refine ⟨I', A', B', ?_, by rw [a4 39 (by decide), mm_up_eq], ⟨a2, ⟨b1, b2, by decide, fun i hi => absurd hi (Nat.not_lt_zero _)⟩, b7, b8, fun j hj => by rw [a5 51 (by decide) (by decide) (by decide) (by decide) (by decide) (by decide)]; exact h51 j hj⟩, ⟨fun z => (by cases z), b5, by rw [b3, if_pos rfl], b6⟩, b4, fun i hi => by rw [a3 i hi, mm_up_row _ _ _ _ _ hi], fun p h1 h2 => by rw [a4 p h1, mm_up_ne2 _ _ _ _ _ _ h2], a5, a6⟩
  rw [h, hb, show bi (!true) = i32 0 from rfl, sg_X11_game_75, if_neg (show ¬ bi true = 0 by decide), a1, mm_aft_n, sg_X11_game_87, a2.cells]
end
