/-! the law's calls on both sides: questions -/
section
variable {K R C : Nat} {lg : Nat → Nat} {m : Nat} {sw : Bool} {ea : Nat} {tk : Bool} {se pe us : Nat → Nat} {lo : Nat} {rc : Bool} {t : Nat} {tp : Nat → Nat} {pn : Nat} {ln : Nat → Nat} {tx : Nat → Nat → Nat} {n : Nat} {ra : Nat → Int} {pl wo ls : Nat → Nat} {I : Nat → Nat → Int32} {J : Nat → Nat → Int64} {A : Nat → Nat → Int32} {B : Nat → Nat → Int64} {c e : Nat}
theorem st_told (hc : CSd K R C lg m sw ea tk se pe us lo rc t tp pn ln tx n ra pl wo ls I J A B) (hm : MSd K R C lg m sw ea tk se pe us lo rc t tp pn ln tx n ra pl wo ls I A B) (hb : BSd K R C lg m sw ea tk se pe us lo rc t tp pn ln tx n ra pl wo ls c) (hk : c < 10000) (x1 : Int32) : StG vI oI c e I J A B f_L_told [.ref 0, .int x1, .ref 64] f_X11_told [.ref 39, .int x1] := by
  have bn := hb.next hk
  cases q : rgP x1 0 6 with
  | false => exact StG.no1 (v := i32 0) (kk := 1) hc hm bn (by decide) (by decide) (wL_told_x2 (cC_told_1 e I J A B q)) (by have hz := cM_told_1 1 mm_R0 (e + 1) I J A B q; rw [mm_RM_0] at hz; exact hz)
  | true =>
    obtain ⟨v, _, hv, rfl⟩ := rg_cases (lo := 0) (hi := 6) (by decide) (by decide) q
    exact StG.q hc hm bn (wL_told (cC_told e I J A B hc.1 hb.1 hc.2.1 hb.2.1.1 hv)) (fun I J A B h => (by have hz := cM_told 1 mm_R0 e I J A B h.1 hb.1 h.2.1 hb.2.1.1 hv; rw [mm_RM_0] at hz; exact hz))
theorem st_cell (hc : CSd K R C lg m sw ea tk se pe us lo rc t tp pn ln tx n ra pl wo ls I J A B) (hm : MSd K R C lg m sw ea tk se pe us lo rc t tp pn ln tx n ra pl wo ls I A B) (hb : BSd K R C lg m sw ea tk se pe us lo rc t tp pn ln tx n ra pl wo ls c) (hk : c < 10000) (x1 x2 : Int32) : StG vI oI c e I J A B f_L_cell [.ref 0, .int x1, .int x2, .ref 64] f_X11_cell [.ref 39, .int x1, .int x2] := by
  have bn := hb.next hk
  cases q1 : cellP (bN K R C) x1 with
  | false => exact StG.no1 (v := i32 0) (kk := 1) hc hm bn (by decide) (by decide) (wL_cell_x1 (cC_cell_1 e I J A B hc.1.1 q1)) (by have hz := cM_cell_1 1 mm_R0 (e + 1) I J A B hm.1.1 (y := x2) q1; rw [mm_RM_0] at hz; exact hz)
  | true =>
    cases q2 : rgP x2 0 6 with
    | false => exact StG.no2 (v := i32 0) (kk := 2) hc hm bn (by decide) (by decide) (wL_cell_x2 (cC_cell_2 e I J A B hc.1.1 q1 q2)) (by have hz := cM_cell_2 1 mm_R0 (e + 1) I J A B hm.1.1 q1 q2; rw [mm_RM_0] at hz; exact hz)
    | true =>
      obtain ⟨d, hd, rfl⟩ := cellP_ex (bN_le hb.1.1) q1
      obtain ⟨v, _, hv, rfl⟩ := rg_cases (lo := 0) (hi := 6) (by decide) (by decide) q2
      exact StG.q hc hm bn (wL_cell (cC_cell e I J A B hc.1 hb.1 hd hv)) (fun I J A B h => (by have hz := cM_cell 1 mm_R0 e I J A B h.1 hb.1 hd hv; rw [mm_RM_0] at hz; exact hz))
theorem st_neighbour (hc : CSd K R C lg m sw ea tk se pe us lo rc t tp pn ln tx n ra pl wo ls I J A B) (hm : MSd K R C lg m sw ea tk se pe us lo rc t tp pn ln tx n ra pl wo ls I A B) (hb : BSd K R C lg m sw ea tk se pe us lo rc t tp pn ln tx n ra pl wo ls c) (hk : c < 10000) (x1 x2 : Int32) : StG vI oI c e I J A B f_L_neighbour [.ref 0, .int x1, .int x2, .ref 64] f_X11_neighbour [.ref 39, .int x1, .int x2] := by
  have bn := hb.next hk
  cases q1 : cellP (bN K R C) x1 with
  | false => exact StG.no1 (v := i32 0) (kk := 1) hc hm bn (by decide) (by decide) (wL_neighbour_x1 (cC_neighbour_1 e I J A B hc.1.1 q1)) (by have hz := cM_neighbour_1 1 mm_R0 (e + 1) I J A B hm.1.1 (y := x2) q1; rw [mm_RM_0] at hz; exact hz)
  | true =>
    cases q2 : rgP x2 0 5 with
    | false => exact StG.no2 (v := i32 0) (kk := 2) hc hm bn (by decide) (by decide) (wL_neighbour_x2 (cC_neighbour_2 e I J A B hc.1.1 q1 q2)) (by have hz := cM_neighbour_2 1 mm_R0 (e + 1) I J A B hm.1.1 q1 q2; rw [mm_RM_0] at hz; exact hz)
    | true =>
      obtain ⟨d, hd, rfl⟩ := cellP_ex (bN_le hb.1.1) q1
      obtain ⟨v, _, hv, rfl⟩ := rg_cases (lo := 0) (hi := 5) (by decide) (by decide) q2
      exact StG.q hc hm bn (wL_neighbour (cC_neighbour e I J A B hc.1.1 hd hv)) (fun I J A B h => (by have hz := cM_neighbour 1 mm_R0 e I J A B h.1.1 hd hv; rw [mm_RM_0] at hz; exact hz))
theorem st_best (hc : CSd K R C lg m sw ea tk se pe us lo rc t tp pn ln tx n ra pl wo ls I J A B) (hm : MSd K R C lg m sw ea tk se pe us lo rc t tp pn ln tx n ra pl wo ls I A B) (hb : BSd K R C lg m sw ea tk se pe us lo rc t tp pn ln tx n ra pl wo ls c) (hk : c < 10000) : StG vI oI c e I J A B f_L_best [.ref 0, .ref 64] f_X11_best [.ref 39] := by
  have bn := hb.next hk
  by_cases q : gn (emp (bN K R C) (sN lg m sw 0) (sN lg m sw 1)) ≤ 9
  · obtain ⟨I1, J1, A1, a1, a2, a3⟩ := cC_best e I J A B hc.1 q
    refine StG.ok hm (wL_best a1) (hc.fc a3 a2) a3.hc (fun I J A B h => ?_) bn
    obtain ⟨I2, A2, B2, b1, b2, b3⟩ := cM_best 1 mm_R0 e I J A B h.1 q
    rw [mm_RM_0] at b1
    exact ⟨I2, J, A2, B2, b1, b2, h.fm b3, b3.hm⟩
  · exact StG.no1 (v := i32 0) (kk := 1) hc hm bn (by decide) (by decide) (wL_best_x3 (cC_best_no e I J A B hc.1 q)) (by have hz := cM_best_no 1 mm_R0 (e + 1) I J A B hm.1 q; rw [mm_RM_0] at hz; exact hz)
theorem st_wins (hc : CSd K R C lg m sw ea tk se pe us lo rc t tp pn ln tx n ra pl wo ls I J A B) (hm : MSd K R C lg m sw ea tk se pe us lo rc t tp pn ln tx n ra pl wo ls I A B) (hb : BSd K R C lg m sw ea tk se pe us lo rc t tp pn ln tx n ra pl wo ls c) (hk : c < 10000) : StG vJ oJ c e I J A B f_L_wins [.ref 0, .ref 64] f_X11_wins [.ref 39] := by
  have bn := hb.next hk
  by_cases q : gn (emp (bN K R C) (sN lg m sw 0) (sN lg m sw 1)) ≤ 9
  · obtain ⟨I1, J1, A1, a1, a2, a3⟩ := cC_wins e I J A B hc.1 q
    refine StG.ok hm (wL_wins a1) (hc.fc a3 a2) a3.hc (fun I J A B h => ?_) bn
    obtain ⟨I2, A2, B2, b1, b2, b3⟩ := cM_wins 1 mm_R0 e I J A B h.1 q
    rw [mm_RM_0] at b1
    exact ⟨I2, J, A2, B2, b1, b2, h.fm b3, b3.hm⟩
  · exact StG.no1 (v := (0 : Int64)) (kk := 1) hc hm bn (by decide) (by decide) (wL_wins_x3 (cC_wins_no e I J A B hc.1 q)) (by have hz := cM_wins_no 1 mm_R0 (e + 1) I J A B hm.1 q; rw [mm_RM_0] at hz; exact hz)
theorem st_lasts (hc : CSd K R C lg m sw ea tk se pe us lo rc t tp pn ln tx n ra pl wo ls I J A B) (hm : MSd K R C lg m sw ea tk se pe us lo rc t tp pn ln tx n ra pl wo ls I A B) (hb : BSd K R C lg m sw ea tk se pe us lo rc t tp pn ln tx n ra pl wo ls c) (hk : c < 10000) : StG vI oI c e I J A B f_L_lasts [.ref 0, .ref 64] f_X11_lasts [.ref 39] := by
  have bn := hb.next hk
  by_cases q : gn (emp (bN K R C) (sN lg m sw 0) (sN lg m sw 1)) ≤ 9
  · obtain ⟨I1, J1, A1, a1, a2, a3⟩ := cC_lasts e I J A B hc.1 q
    refine StG.ok hm (wL_lasts a1) (hc.fc a3 a2) a3.hc (fun I J A B h => ?_) bn
    obtain ⟨I2, A2, B2, b1, b2, b3⟩ := cM_lasts 1 mm_R0 e I J A B h.1 q
    rw [mm_RM_0] at b1
    exact ⟨I2, J, A2, B2, b1, b2, h.fm b3, b3.hm⟩
  · exact StG.no1 (v := i32 0) (kk := 1) hc hm bn (by decide) (by decide) (wL_lasts_x3 (cC_lasts_no e I J A B hc.1 q)) (by have hz := cM_lasts_no 1 mm_R0 (e + 1) I J A B hm.1 q; rw [mm_RM_0] at hz; exact hz)
theorem st_dead (hc : CSd K R C lg m sw ea tk se pe us lo rc t tp pn ln tx n ra pl wo ls I J A B) (hm : MSd K R C lg m sw ea tk se pe us lo rc t tp pn ln tx n ra pl wo ls I A B) (hb : BSd K R C lg m sw ea tk se pe us lo rc t tp pn ln tx n ra pl wo ls c) (hk : c < 10000) : StG vJ oJ c e I J A B f_L_dead [.ref 0, .ref 64] f_X11_dead [.ref 39] := by
  have bn := hb.next hk
  by_cases q : gn (emp (bN K R C) (sN lg m sw 0) (sN lg m sw 1)) ≤ 9
  · obtain ⟨I1, J1, A1, a1, a2, a3⟩ := cC_dead e I J A B hc.1 q
    refine StG.ok hm (wL_dead a1) (hc.fc a3 a2) a3.hc (fun I J A B h => ?_) bn
    obtain ⟨I2, A2, B2, b1, b2, b3⟩ := cM_dead 1 mm_R0 e I J A B h.1 q
    rw [mm_RM_0] at b1
    exact ⟨I2, J, A2, B2, b1, b2, h.fm b3, b3.hm⟩
  · exact StG.no1 (v := (0 : Int64)) (kk := 1) hc hm bn (by decide) (by decide) (wL_dead_x3 (cC_dead_no e I J A B hc.1 q)) (by have hz := cM_dead_no 1 mm_R0 (e + 1) I J A B hm.1 q; rw [mm_RM_0] at hz; exact hz)
theorem lkC_k (K R C : Nat) (lg : Nat → Nat) (m : Nat) (sw ex : Bool) (p one oth : Int32) : lkC K R C lg m sw ex p one oth = 0 ∨ lkC K R C lg m sw ex p one oth = 1 ∨ lkC K R C lg m sw ex p one oth = 2 ∨ lkC K R C lg m sw ex p one oth = 3 := by
  unfold lkC
  split
  · exact Or.inr (Or.inl rfl)
  · split
    · exact Or.inr (Or.inr (Or.inl rfl))
    · split
      · exact Or.inl rfl
      · exact Or.inr (Or.inr (Or.inr rfl))
theorem lkC_z {K R C : Nat} {lg : Nat → Nat} {m : Nat} {sw ex : Bool} {p one oth : Int32} (v : bV K R C = true) (h : lkC K R C lg m sw ex p one oth = 0) : ∃ p' c1 c2, p' < 2 ∧ okE K R C c1 ∧ okE K R C c2 ∧ p = i32 p' ∧ one = i32 c1 ∧ oth = i32 c2 ∧ ex = true := by
  unfold lkC at h
  split at h
  · cases h
  · next q =>
    have q := eq_true_of_ne_false q
    have q1 := Bool.and_eq_true_iff.mp q
    have q2 := Bool.and_eq_true_iff.mp q1.1
    have q3 := Bool.and_eq_true_iff.mp q2.1
    obtain ⟨p', hp, rfl⟩ := plaP_ex q3.1
    obtain ⟨c1, o1, rfl, _⟩ := endP_ex (bN_le v) q3.2
    obtain ⟨c2, o2, rfl, _⟩ := endP_ex (bN_le v) q2.2
    exact ⟨p', c1, c2, hp, o1, o2, rfl, rfl, rfl, q1.2⟩
theorem st_carrier (hc : CSd K R C lg m sw ea tk se pe us lo rc t tp pn ln tx n ra pl wo ls I J A B) (hm : MSd K R C lg m sw ea tk se pe us lo rc t tp pn ln tx n ra pl wo ls I A B) (hb : BSd K R C lg m sw ea tk se pe us lo rc t tp pn ln tx n ra pl wo ls c) (hk : c < 10000) (x1 x2 x3 : Int32) : StG vJ oJ c e I J A B f_L_carrier [.ref 0, .int x1, .int x2, .int x3, .ref 64] f_X11_carrier [.ref 39, .int x1, .int x2, .int x3] := by
  have bn := hb.next hk
  by_cases q : lkC K R C lg m sw true x1 x2 x3 = 0
  · obtain ⟨p, c1, c2, hp, o1, o2, rfl, rfl, rfl, _⟩ := lkC_z hb.1.1 q
    obtain ⟨I1, J1, A1, v, a1, av, a2, a3⟩ := cC_carrier e I J A B hc.1 hp o1 o2 q
    refine StG.ok hm (wL_carrier a1) (hc.fc a3 a2) a3.hc (fun I J A B h => ?_) bn
    obtain ⟨I2, A2, w, b1, bv, b2, b3⟩ := cM_carrier 1 mm_R0 e I J B A h.1 hb.1 hp o1 o2 q
    rw [mm_RM_0, CarP_u bv av] at b1
    exact ⟨I2, J, A2, B, b1, b2, h.fm b3, b3.hm⟩
  · have a1 := cC_carrier_no e I J A B hc.1 q
    obtain ⟨I2, b1, b2, b3⟩ := cM_carrier_no 1 mm_R0 (e + 1) I J B A hm.1 q
    rw [mm_RM_0] at b1
    rcases lkC_k K R C lg m sw true x1 x2 x3 with z | z | z | z
    · exact absurd z q
    · rw [z] at a1 b2
      exact StG.no (v := (0 : Int64)) (kk := 1) hc hm bn (by decide) (by decide) (wL_carrier_x1 a1) b1 b2 b3.1 b3.2.1
    · rw [z] at a1 b2
      exact StG.no (v := (0 : Int64)) (kk := 2) hc hm bn (by decide) (by decide) (wL_carrier_x2 a1) b1 b2 b3.1 b3.2.1
    · rw [z] at a1 b2
      exact StG.no (v := (0 : Int64)) (kk := 3) hc hm bn (by decide) (by decide) (wL_carrier_x3 a1) b1 b2 b3.1 b3.2.1
theorem st_answer (hc : CSd K R C lg m sw ea tk se pe us lo rc t tp pn ln tx n ra pl wo ls I J A B) (hm : MSd K R C lg m sw ea tk se pe us lo rc t tp pn ln tx n ra pl wo ls I A B) (hb : BSd K R C lg m sw ea tk se pe us lo rc t tp pn ln tx n ra pl wo ls c) (hk : c < 10000) (x1 x2 x3 x4 : Int32) : StG vI oI c e I J A B f_L_answer [.ref 0, .int x1, .int x2, .int x3, .int x4, .ref 64] f_X11_answer [.ref 39, .int x1, .int x2, .int x3, .int x4] := by
  have bn := hb.next hk
  by_cases q : lkC K R C lg m sw (cellP (bN K R C) x4) x1 x2 x3 = 0
  · obtain ⟨p, c1, c2, hp, o1, o2, rfl, rfl, rfl, hx⟩ := lkC_z hb.1.1 q
    rw [hx] at q
    obtain ⟨cl, hcl, rfl⟩ := cellP_ex (bN_le hb.1.1) hx
    obtain ⟨I1, J1, A1, v, a1, av, a2, a3⟩ := cC_answer e I J A B hc.1 hp o1 o2 hcl q
    refine StG.ok hm (wL_answer a1) (hc.fc a3 a2) a3.hc (fun I J A B h => ?_) bn
    obtain ⟨I2, A2, w, b1, bv, b2, b3⟩ := cM_answer 1 mm_R0 e I J B A h.1 hb.1 hp o1 o2 hcl q
    rw [mm_RM_0, AnwP_u bv av] at b1
    exact ⟨I2, J, A2, B, b1, b2, h.fm b3, b3.hm⟩
  · have a1 := cC_answer_no e I J A B hc.1 q
    obtain ⟨I2, b1, b2, b3⟩ := cM_answer_no 1 mm_R0 (e + 1) I J B A hm.1 q
    rw [mm_RM_0] at b1
    rcases lkC_k K R C lg m sw (cellP (bN K R C) x4) x1 x2 x3 with z | z | z | z
    · exact absurd z q
    · rw [z] at a1 b2
      exact StG.no (v := i32 0) (kk := 1) hc hm bn (by decide) (by decide) (wL_answer_x1 a1) b1 b2 b3.1 b3.2.1
    · rw [z] at a1 b2
      exact StG.no (v := i32 0) (kk := 2) hc hm bn (by decide) (by decide) (wL_answer_x2 a1) b1 b2 b3.1 b3.2.1
    · rw [z] at a1 b2
      exact StG.no (v := i32 0) (kk := 3) hc hm bn (by decide) (by decide) (wL_answer_x3 a1) b1 b2 b3.1 b3.2.1
theorem st_gaveAway (hc : CSd K R C lg m sw ea tk se pe us lo rc t tp pn ln tx n ra pl wo ls I J A B) (hm : MSd K R C lg m sw ea tk se pe us lo rc t tp pn ln tx n ra pl wo ls I A B) (hb : BSd K R C lg m sw ea tk se pe us lo rc t tp pn ln tx n ra pl wo ls c) (hk : c < 10000) (x1 : Int32) : StG vZ oZ c e I J A B f_L_gaveAway [.ref 0, .int x1, .ref 64] f_X11_gaveAway [.ref 39, .int x1] := by
  have bn := hb.next hk
  by_cases q : x1 < i32 0 ∨ ∃ n, n < 2147483648 ∧ x1 = i32 n ∧ m ≤ n
  · exact StG.no1 (v := false) (kk := 1) hc hm bn (by decide) (by decide) (wL_gaveAway_x1 (cC_gave_1 e I J A B hc.1 q)) (by have hz := cM_gave_1 1 mm_R0 (e + 1) I J A B hm.1 q; rw [mm_RM_0] at hz; exact hz)
  · rcases i32_cases x1 with z | ⟨d, hd, rfl⟩
    · exact absurd (Or.inl z) q
    · have hdm : d < m := by
        rcases Nat.lt_or_ge d m with y | y
        · exact y
        · exact absurd (Or.inr ⟨d, hd, rfl, y⟩) q
      by_cases s : sw = true ∧ d = 1
      · obtain ⟨s1, rfl⟩ := s
        exact StG.no2 (v := false) (kk := 2) hc hm bn (by decide) (by decide) (wL_gaveAway_x2 (cC_gave_2 e I J A B hc.1 hdm s1)) (by have hz := cM_gave_2 1 mm_R0 (e + 1) I J A B hm.1 hdm s1; rw [mm_RM_0] at hz; exact hz)
      · by_cases g9 : gn (emp (bN K R C) (aS lg sw d 0) (aS lg sw d 1)) ≤ 9
        · obtain ⟨I1, J1, A1, a1, a2, a3⟩ := cC_gave e I J A B hc.1 hb.1 hdm s g9
          refine StG.ok hm (wL_gaveAway a1) (hc.fc a3 a2) a3.hc (fun I J A B h => ?_) bn
          obtain ⟨I2, A2, B2, b1, b2, b3⟩ := cM_gave 1 mm_R0 e I J A B h.1 hb.1 hdm s g9
          rw [mm_RM_0] at b1
          exact ⟨I2, J, A2, B2, b1, b2, h.fm b3, b3.hm⟩
        · exact StG.no2 (v := false) (kk := 3) hc hm bn (by decide) (by decide) (wL_gaveAway_x3 (cC_gave_3 e I J A B hc.1 hb.1 hdm s g9)) (by have hz := cM_gave_3 1 mm_R0 (e + 1) I J A B hm.1 hb.1 hdm s g9; rw [mm_RM_0] at hz; exact hz)
theorem st_far (hc : CSd K R C lg m sw ea tk se pe us lo rc t tp pn ln tx n ra pl wo ls I J A B) (hm : MSd K R C lg m sw ea tk se pe us lo rc t tp pn ln tx n ra pl wo ls I A B) (hb : BSd K R C lg m sw ea tk se pe us lo rc t tp pn ln tx n ra pl wo ls c) (hk : c < 10000) (x1 : Int32) : StG vI oI c e I J A B f_L_far [.ref 0, .int x1, .ref 64] f_X11_far [.ref 39, .int x1] := by
  have bn := hb.next hk
  cases q : plaP x1 with
  | false => exact StG.no1 (v := i32 0) (kk := 1) hc hm bn (by decide) (by decide) (wL_far_x1 (cC_far_1 e I J A B q)) (by have hz := cM_far_1 1 mm_R0 (e + 1) I J A B q; rw [mm_RM_0] at hz; exact hz)
  | true =>
    obtain ⟨p, hp, rfl⟩ := plaP_ex q
    by_cases s : p = 1 ∧ K = 2
    · obtain ⟨rfl, rfl⟩ := s
      exact StG.no2 (v := i32 0) (kk := 2) hc hm bn (by decide) (by decide) (wL_far_x3 (cC_far_3 e I J A B hc.1)) (by have hz := cM_far_3 1 mm_R0 (e + 1) I J A B hm.1; rw [mm_RM_0] at hz; exact hz)
    · obtain ⟨A1, a1, a2, a3⟩ := cC_far e I J A B hc.1 hb.1 hp s
      refine StG.ok hm (wL_far a1) (hc.fc a3 a2) a3.hc (fun I J A B h => ?_) bn
      obtain ⟨A2, b1, b3⟩ := cM_far 1 mm_R0 e I J A B h.1 hb.1 hp s
      rw [mm_RM_0] at b1
      exact ⟨_, J, A2, B, b1, mm_up_eq _ _ _ _, h.fm b3, b3.hm⟩
theorem st_plays (hc : CSd K R C lg m sw ea tk se pe us lo rc t tp pn ln tx n ra pl wo ls I J A B) (hm : MSd K R C lg m sw ea tk se pe us lo rc t tp pn ln tx n ra pl wo ls I A B) (hb : BSd K R C lg m sw ea tk se pe us lo rc t tp pn ln tx n ra pl wo ls c) (hk : c < 10000) (x1 x2 : Int32) : StG vI oI c e I J A B f_L_plays [.ref 0, .int x1, .int x2, .ref 64] f_X11_plays [.ref 39, .int x1, .int x2] := by
  have bn := hb.next hk
  cases q : (rgP x1 0 1000000 && rgP x2 1 50) with
  | false => exact StG.no1 (v := i32 0) (kk := 1) hc hm bn (by decide) (by decide) (wL_plays_x2 (cC_plays_1 e I J A B q)) (by have hz := cM_plays_1 1 mm_R0 (e + 1) I J A B q; rw [mm_RM_0] at hz; exact hz)
  | true =>
    have q2 := Bool.and_eq_true_iff.mp q
    obtain ⟨s, _, hs, rfl⟩ := rg_cases (lo := 0) (hi := 1000000) (by decide) (by decide) q2.1
    obtain ⟨d, h1, h2, rfl⟩ := rg_cases (lo := 1) (hi := 50) (by decide) (by decide) q2.2
    by_cases hj : jnd K R C (sN lg m sw 0) (sN lg m sw 1) = iN
    · obtain ⟨J1, a1, a2, a3⟩ := cC_plays e I J A B hc.1 hs h1 h2 hj
      refine StG.ok hm (wL_plays a1) (hc.fc a3 a2) a3.hc (fun I J A B h => ?_) bn
      obtain ⟨J2, b1, b3⟩ := cM_plays 1 mm_R0 e I J A B h.1 hs h1 h2 hj
      rw [mm_RM_0] at b1
      exact ⟨_, J2, A, B, b1, mm_up_eq _ _ _ _, h.fm b3, b3.hm⟩
    · exact StG.no2 (v := i32 0) (kk := 2) hc hm bn (by decide) (by decide) (wL_plays_x3 (cC_plays_2 e I J A B hc.1 hs h1 h2 hj)) (by have hz := cM_plays_2 1 mm_R0 (e + 1) I J A B hm.1 hs h1 h2 hj; rw [mm_RM_0] at hz; exact hz)
theorem st_playedOut (hc : CSd K R C lg m sw ea tk se pe us lo rc t tp pn ln tx n ra pl wo ls I J A B) (hm : MSd K R C lg m sw ea tk se pe us lo rc t tp pn ln tx n ra pl wo ls I A B) (hb : BSd K R C lg m sw ea tk se pe us lo rc t tp pn ln tx n ra pl wo ls c) (hk : c < 10000) (x1 : Int32) : StG vJ oJ c e I J A B f_L_playedOut [.ref 0, .int x1, .ref 64] f_X11_playedOut [.ref 39, .int x1] := by
  have bn := hb.next hk
  cases q : rgP x1 0 1000000 with
  | false => exact StG.no1 (v := (0 : Int64)) (kk := 1) hc hm bn (by decide) (by decide) (wL_playedOut_x2 (cC_playedOut_1 e I J A B q)) (by have hz := cM_playedOut_1 1 mm_R0 (e + 1) I J A B q; rw [mm_RM_0] at hz; exact hz)
  | true =>
    obtain ⟨s, _, hs, rfl⟩ := rg_cases (lo := 0) (hi := 1000000) (by decide) (by decide) q
    by_cases hj : jnd K R C (sN lg m sw 0) (sN lg m sw 1) = iN
    · obtain ⟨J1, a1, a2, a3⟩ := cC_playedOut e I J A B hc.1 hs hj
      refine StG.ok hm (wL_playedOut a1) (hc.fc a3 a2) a3.hc (fun I J A B h => ?_) bn
      obtain ⟨J2, b1, b3⟩ := cM_playedOut 1 mm_R0 e I J A B h.1 hs hj
      rw [mm_RM_0] at b1
      exact ⟨_, J2, A, B, b1, mm_up_eq _ _ _ _, h.fm b3, b3.hm⟩
    · exact StG.no2 (v := (0 : Int64)) (kk := 2) hc hm bn (by decide) (by decide) (wL_playedOut_x3 (cC_playedOut_2 e I J A B hc.1 hs hj)) (by have hz := cM_playedOut_2 1 mm_R0 (e + 1) I J A B hm.1 hs hj; rw [mm_RM_0] at hz; exact hz)
theorem st_fits (hc : CSd K R C lg m sw ea tk se pe us lo rc t tp pn ln tx n ra pl wo ls I J A B) (hm : MSd K R C lg m sw ea tk se pe us lo rc t tp pn ln tx n ra pl wo ls I A B) (hb : BSd K R C lg m sw ea tk se pe us lo rc t tp pn ln tx n ra pl wo ls c) (hk : c < 10000) (x1 x2 : Int32) : StG vJ oJ c e I J A B f_L_fits [.ref 0, .int x1, .int x2, .ref 64] f_X11_fits [.ref 39, .int x1, .int x2] := by
  have bn := hb.next hk
  cases q : (cellP pn x1 && plaP x2) with
  | false => exact StG.no1 (v := (0 : Int64)) (kk := 1) hc hm bn (by decide) (by decide) (wL_fits_x1 (cC_fits_1 e I J A B hc.2.2.2.2.1 q)) (by have hz := cM_fits_1 1 mm_R0 (e + 1) I J A B hm.2.2.2.2.1 q; rw [mm_RM_0] at hz; exact hz)
  | true =>
    have q2 := Bool.and_eq_true_iff.mp q
    obtain ⟨pt, hpt, rfl⟩ := cellP_ex (by have := hc.2.2.2.2.1.2.1; omega) q2.1
    obtain ⟨p, hp, rfl⟩ := plaP_ex q2.2
    exact StG.q hc hm bn (wL_fits (cC_fits e I J A B hc.1 hc.2.2.2.2.1 hc.2.2.2.2.2.1 hp hpt)) (fun I J A B h => (by have hz := cM_fits 1 mm_R0 e I J A B h.1 hb.1 h.2.2.2.2.1 hb.2.2.2.1 hp hpt; rw [mm_RM_0] at hz; exact hz))
theorem st_fitsAnew (hc : CSd K R C lg m sw ea tk se pe us lo rc t tp pn ln tx n ra pl wo ls I J A B) (hm : MSd K R C lg m sw ea tk se pe us lo rc t tp pn ln tx n ra pl wo ls I A B) (hb : BSd K R C lg m sw ea tk se pe us lo rc t tp pn ln tx n ra pl wo ls c) (hk : c < 10000) (x1 x2 : Int32) : StG vJ oJ c e I J A B f_L_fitsAnew [.ref 0, .int x1, .int x2, .ref 64] f_X11_fitsAnew [.ref 39, .int x1, .int x2] := by
  have bn := hb.next hk
  cases q : (cellP pn x1 && plaP x2) with
  | false => exact StG.no1 (v := (0 : Int64)) (kk := 1) hc hm bn (by decide) (by decide) (wL_fitsAnew_x1 (cC_fitsAnew_1 e I J A B hc.2.2.2.2.1 q)) (by have hz := cM_fitsAnew_1 1 mm_R0 (e + 1) I J A B hm.2.2.2.2.1 q; rw [mm_RM_0] at hz; exact hz)
  | true =>
    have q2 := Bool.and_eq_true_iff.mp q
    obtain ⟨pt, hpt, rfl⟩ := cellP_ex (by have := hc.2.2.2.2.1.2.1; omega) q2.1
    obtain ⟨p, hp, rfl⟩ := plaP_ex q2.2
    exact StG.q hc hm bn (wL_fitsAnew (cC_fitsAnew e I J A B hc.1 hc.2.2.2.2.1 hb.2.2.2.1 hp hpt)) (fun I J A B h => (by have hz := cM_fitsAnew 1 mm_R0 e I J A B h.1 hb.1 h.2.2.2.2.1 hb.2.2.2.1 hp hpt; rw [mm_RM_0] at hz; exact hz))
theorem st_clock (hc : CSd K R C lg m sw ea tk se pe us lo rc t tp pn ln tx n ra pl wo ls I J A B) (hm : MSd K R C lg m sw ea tk se pe us lo rc t tp pn ln tx n ra pl wo ls I A B) (hb : BSd K R C lg m sw ea tk se pe us lo rc t tp pn ln tx n ra pl wo ls c) (hk : c < 10000) (x1 x2 : Int32) : StG vI oI c e I J A B f_L_clock [.ref 0, .int x1, .int x2, .ref 64] f_X11_clock [.ref 39, .int x1, .int x2] := by
  have bn := hb.next hk
  cases q1 : plaP x1 with
  | false => exact StG.no1 (v := i32 0) (kk := 1) hc hm bn (by decide) (by decide) (wL_clock_x1 (cC_clock_1 e I J A B q1)) (by have hz := cM_clock_1 1 mm_R0 (e + 1) I J A B (y := x2) q1; rw [mm_RM_0] at hz; exact hz)
  | true =>
    cases q2 : rgP x2 0 2 with
    | false => exact StG.no2 (v := i32 0) (kk := 2) hc hm bn (by decide) (by decide) (wL_clock_x2 (cC_clock_2 e I J A B q1 q2)) (by have hz := cM_clock_2 1 mm_R0 (e + 1) I J A B q1 q2; rw [mm_RM_0] at hz; exact hz)
    | true =>
      obtain ⟨p, hp, rfl⟩ := plaP_ex q1
      obtain ⟨v, _, hv, rfl⟩ := rg_cases (lo := 0) (hi := 2) (by decide) (by decide) q2
      exact StG.q hc hm bn (wL_clock (cC_clock e I J A B hc.2.1 hp hv)) (fun I J A B h => (by have hz := cM_clock 1 mm_R0 e I J A B h.2.1 hp hv; rw [mm_RM_0] at hz; exact hz))
theorem st_ofPerson (hc : CSd K R C lg m sw ea tk se pe us lo rc t tp pn ln tx n ra pl wo ls I J A B) (hm : MSd K R C lg m sw ea tk se pe us lo rc t tp pn ln tx n ra pl wo ls I A B) (hb : BSd K R C lg m sw ea tk se pe us lo rc t tp pn ln tx n ra pl wo ls c) (hk : c < 10000) (x1 x2 : Int32) : StG vI oI c e I J A B f_L_ofPerson [.ref 0, .int x1, .int x2, .ref 64] f_X11_ofPerson [.ref 39, .int x1, .int x2] := by
  have bn := hb.next hk
  cases q1 : cellP n x1 with
  | false => exact StG.no1 (v := i32 0) (kk := 1) hc hm bn (by decide) (by decide) (wL_ofPerson_x1 (cC_ofPerson_1 e I J A B hc.2.2.2.2.2.2 q1)) (by have hz := cM_ofPerson_1 1 mm_R0 (e + 1) I J A B hm.2.2.2.2.2 (y := x2) q1; rw [mm_RM_0] at hz; exact hz)
  | true =>
    cases q2 : rgP x2 0 3 with
    | false => exact StG.no2 (v := i32 0) (kk := 2) hc hm bn (by decide) (by decide) (wL_ofPerson_x2 (cC_ofPerson_2 e I J A B hc.2.2.2.2.2.2 q1 q2)) (by have hz := cM_ofPerson_2 1 mm_R0 (e + 1) I J A B hm.2.2.2.2.2 q1 q2; rw [mm_RM_0] at hz; exact hz)
    | true =>
      obtain ⟨p, hp, rfl⟩ := cellP_ex (by have := hc.2.2.2.2.2.2.2.1; omega) q1
      obtain ⟨v, _, hv, rfl⟩ := rg_cases (lo := 0) (hi := 3) (by decide) (by decide) q2
      exact StG.q hc hm bn (wL_ofPerson (cC_ofPerson e I J A B hc.2.2.2.2.2.2 hp hv)) (fun I J A B h => (by have hz := cM_ofPerson 1 mm_R0 e I J A B h.2.2.2.2.2 hp hv; rw [mm_RM_0] at hz; exact hz))
theorem st_fault (hc : CSd K R C lg m sw ea tk se pe us lo rc t tp pn ln tx n ra pl wo ls I J A B) (hm : MSd K R C lg m sw ea tk se pe us lo rc t tp pn ln tx n ra pl wo ls I A B) (hb : BSd K R C lg m sw ea tk se pe us lo rc t tp pn ln tx n ra pl wo ls c) (hk : c < 10000) : StW c e I J A B f_X10_fault f_X11_fault := by
  have bn := hb.next hk
  exact ⟨_, I, J, A, B, mm_up I 39 39 (i32 0), J, A, B, cC_fault e I J A B hc.2.2.2.1 hb.2.2.1, (by have hz := cM_fault 1 mm_R0 e I J A B hm.2.2.2.1 hb.2.2.1; rw [mm_RM_0] at hz; exact hz), ⟨_, _, _, _, _, _, _, _, _, _, _, _, _, _, _, _, _, _, _, _, _, _, _, hc.hm (HM.th _), hm.th _, bn⟩⟩
end
