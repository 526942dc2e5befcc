/-! both objects made, and the law from its first step -/
theorem CSd.first {I : Nat → Nat → Int32} {J : Nat → Nat → Int64} {A : Nat → Nat → Int32} {B : Nat → Nat → Int64} (g : CG 0 2 2 (fun _ => 0) 0 false I J A B) (tc : TC 0 false (fun _ => 0) (fun _ => 0) (fun _ => 0) 0 I A) (h9 : I 0 9 = bi false) (h6 : I 24 6 = i32 0) (h7 : I 24 7 = i32 0) (h4 : I 34 4 = i32 0) (hp : ∀ p, A 37 p = i32 0 ∧ A 38 p = i32 0) : CSd 0 2 2 (fun _ => 0) 0 false 0 false (fun _ => 0) (fun _ => 0) (fun _ => 0) 0 false 0 (fun _ => 0) 0 (fun _ => 0) (fun _ _ => 0) 0 (fun _ => 0) (fun _ => 0) (fun _ => 0) (fun _ => 0) I J A B :=
  ⟨g, tc, h9, ⟨h6, Nat.zero_le _, fun j hj => absurd hj (Nat.not_lt_zero _)⟩, ⟨h7, Nat.zero_le _, fun j hj => absurd hj (Nat.not_lt_zero _)⟩, fun j hj => absurd hj (Nat.not_lt_zero _), h4, Nat.zero_le _, fun j hj => absurd hj (Nat.not_lt_zero _), fun p _ => hp p⟩
theorem bx_first : BXd 0 2 2 (fun _ => 0) 0 false 0 false (fun _ => 0) (fun _ => 0) (fun _ => 0) 0 false 0 (fun _ => 0) 0 (fun _ => 0) (fun _ _ => 0) 0 (fun _ => 0) (fun _ => 0) (fun _ => 0) (fun _ => 0) 0 :=
  have v : bV 0 2 2 = true := by decide
  ⟨⟨v, fun i hi => absurd hi (Nat.not_lt_zero _), fun i j _ _ hj => absurd hj (Nat.not_lt_zero _), fun z => by cases z⟩, TB.zero, YB.zero, fun p hp => absurd hp (Nat.not_lt_zero _), ⟨fun p hp => absurd hp (Nat.not_lt_zero _), fun _ _ => ⟨rfl, rfl⟩⟩, fun j hj => absurd hj (Nat.not_lt_zero _), fun _ => rfl, (fun z => by cases z), rfl, ⟨fun p hp => absurd hp (Nat.not_lt_zero _), fun p q hp => absurd hp (Nat.not_lt_zero _)⟩, hexP v (by decide) (by decide), Nat.zero_le _, fun _ => Nat.zero_le _⟩
theorem RR_lo {i : Nat} (h : 39 ≤ i) (j : Nat) : RR lC i j = .null := by
  have t : lC.all (fun q => Nat.blt q.1 39) = true := by decide +kernel
  refine RR_nu (fun q hq hb => ?_)
  have := List.all_eq_true.mp t q hq
  rw [Nat.blt_eq] at this
  omega
theorem RR_no (i j : Nat) : RR [] i j = .null := rfl
theorem RR_p {i j : Nat} (h : 41 ≤ j) : RR lC i j = .null := by
  have t : lC.all (fun q => Nat.blt q.2.1 41) = true := by decide +kernel
  refine RR_nu (fun q hq hb => ?_)
  have := List.all_eq_true.mp t q hq
  rw [Nat.blt_eq] at this
  omega
theorem pTR_fin : pTR 39 (RR lC) (RR lC) = mm_R0 := by
  funext k p
  unfold pTR
  by_cases hk : k < 79
  · by_cases hp : p < 41
    · have h : (List.range 79).all (fun k => (List.range 41).all (fun p => veq (bif Nat.blt k 39 then RR lC k p else pV (RR lC (pi k) p)) (mm_R0 k p))) = true := by decide +kernel
      have h2 := veq_eq (List.all_eq_true.mp (List.all_eq_true.mp h k (List.mem_range.2 hk)) p (List.mem_range.2 hp))
      rw [← h2]
      by_cases q : k < 39
      · rw [if_pos ⟨rfl, q⟩, show Nat.blt k 39 = true by rw [Nat.blt_eq]; exact q]; rfl
      · rw [if_neg (fun z => q z.2), show Nat.blt k 39 = false from bool_f (fun z => q (by rw [Nat.blt_eq] at z; exact z))]; rfl
    · rw [R0_p (by omega), RR_p (by omega), RR_p (by omega)]
      by_cases q : 39 = 39 ∧ k < 39
      · rw [if_pos q]
      · rw [if_neg q]; rfl
  · rw [if_neg (fun z => by omega), pi_out (by omega), RR_lo (by omega), R0_k (by omega)]; rfl
/-- the store that the other one is made in -/
theorem pT_start {α : Type} (f g : Nat → Nat → α) (o : α) (z : ∀ (f : Nat → Nat → α) (n : Nat), (Nat → Nat → α)) (hz : ∀ f n, z f n = fun i j => if i = n then o else f i j) : pT 39 f (z (pI f) 0) = z f 39 := by
  funext i j
  rw [hz, hz]
  unfold pT
  show (if 39 = 39 ∧ i < 39 then f i j else (if pi i = 0 then o else pI f (pi i) j)) = (if i = 39 then o else f i j)
  by_cases q : i < 39
  · rw [if_pos ⟨rfl, q⟩, if_neg (by omega)]
  · rw [if_neg (fun y => q y.2)]
    by_cases q2 : i = 39
    · rw [if_pos q2, if_pos (by rw [q2]; rfl)]
    · rw [if_neg q2, if_neg (by unfold pi; split <;> (try split) <;> omega)]
      unfold pI
      rw [pi_pi]
theorem pT_all {α : Type} (f : Nat → Nat → α) : pT 39 f (pI f) = f := by
  funext i j
  unfold pT
  by_cases q : i < 39
  · rw [if_pos ⟨rfl, q⟩]
  · rw [if_neg (fun y => q y.2)]
    unfold pI
    rw [pi_pi]
theorem pTR_start : pTR 39 (RR lC) (RR []) = mm_zR (RR lC) 39 := by
  funext i j
  unfold pTR mm_zR
  by_cases q : i < 39
  · rw [if_pos ⟨rfl, q⟩, if_neg (by omega)]
  · rw [if_neg (fun y => q y.2), RR_no]
    by_cases q2 : i = 39
    · rw [if_pos q2]; rfl
    · rw [if_neg q2, RR_lo (by omega)]; rfl
theorem law_all (Ln : Nat) (xs : Nat → Int32) (hL : Ln ≤ 260) : ∃ S' : mm_S, mm_run (pc_law Ln xs) (0, mm_en 9 [.ref 2000], [], mm_S0) = some (.inl (some (.int 1)), S') ∧ S'.1 ≤ 79 ∧ S'.2.1 ≤ 100000 := by
  obtain ⟨I1, J1, A1, B1, a1, a2, a3, a4, a5, a6, a7, a8⟩ := cC_init 0 (fun _ _ => 0) (fun _ _ => 0) (fun _ _ => 0) (fun _ _ => 0)
  obtain ⟨I2, J2, A2, B2, b1, b2, b3, b4, b5, b6, b7, b8⟩ := cC_init 0 (pI I1) (pI J1) (pI A1) (pI B1)
  have q := qf_X10_init (dd := 39) (T := (39, 0, RR lC, I1, J1, A1, B1)) [.ref 0] _ _ b1 (Or.inr ⟨rfl, show 1 ≤ 39 by decide⟩) (Or.inr ⟨rfl, show 39 ≤ 39 by decide⟩)
  have q1 : pS 39 (39, 0, RR lC, I1, J1, A1, B1) (1, 0, RR [], mm_zI (pI I1) 0, mm_zJ (pI J1) 0, pI A1, pI B1) = (40, 0, mm_zR (RR lC) 39, mm_zI I1 39, mm_zJ J1 39, A1, B1) := by
    show (1 + 39, 0, pTR 39 (RR lC) (RR []), pT 39 I1 (mm_zI (pI I1) 0), pT 39 J1 (mm_zJ (pI J1) 0), pT 39 A1 (pI A1), pT 39 B1 (pI B1)) = _
    rw [pTR_start, pT_all, pT_all, pT_start I1 I1 0 mm_zI (fun _ _ => rfl), pT_start J1 J1 0 mm_zJ (fun _ _ => rfl)]
  rw [q1] at q
  have q2 : f_X10_init [.ref 39] (40, 0, mm_zR (RR lC) 39, mm_zI I1 39, mm_zJ J1 39, A1, B1) = some (.inl none, (78, 0, mm_R0, pT 39 I1 I2, pT 39 J1 J2, pT 39 A1 A2, pT 39 B1 B2)) := by
    refine Eq.trans q ?_
    show some ((Sum.inl none : Option Value ⊕ Nat), ((39 + 39, 0, pTR 39 (RR lC) (RR lC), pT 39 I1 I2, pT 39 J1 J2, pT 39 A1 A2, pT 39 B1 B2) : mm_S)) = _
    rw [pTR_fin]
  have lo : ∀ {α : Type} (f g : Nat → Nat → α) i, i < 39 → pT 39 f g i = f i := fun f g i hi => by
    funext j
    unfold pT
    rw [if_pos ⟨rfl, hi⟩]
  have hi : ∀ {α : Type} (f g : Nat → Nat → α) i, i < 39 → pI (pT 39 f g) i = g i := fun f g i h => by
    funext j
    unfold pI pT
    rw [if_neg (fun y => by have := y.2; unfold pi at this; rw [if_pos h] at this; omega), pi_pi]
  have c1 := CSd.first a2 a3 a4 a5 a6 a7 a8
  have c2 := CSd.first b2 b3 b4 b5 b6 b7 b8
  have up : ∀ i, ¬ i = 78 → mm_up (mm_zA (pT 39 A1 A2) 78) 78 0 (4 : Int32) i = pT 39 A1 A2 i := fun i h => by
    rw [mm_up_row _ _ _ _ _ h]
    funext j
    show (if i = 78 then 0 else pT 39 A1 A2 i j) = _
    rw [if_neg h]
  have ub : ∀ i, ¬ i = 78 → mm_zB (pT 39 B1 B2) 78 i = pT 39 B1 B2 i := fun i h => by
    funext j
    show (if i = 78 then 0 else pT 39 B1 B2 i j) = _
    rw [if_neg h]
  have d1 : CSd 0 2 2 (fun _ => 0) 0 false 0 false (fun _ => 0) (fun _ => 0) (fun _ => 0) 0 false 0 (fun _ => 0) 0 (fun _ => 0) (fun _ _ => 0) 0 (fun _ => 0) (fun _ => 0) (fun _ => 0) (fun _ => 0) (pT 39 I1 I2) (pT 39 J1 J2) (mm_up (mm_zA (pT 39 A1 A2) 78) 78 0 (4 : Int32)) (mm_zB (pT 39 B1 B2) 78) := c1.low (fun i h => lo _ _ i h) (fun i h => lo _ _ i h) (fun i h => by rw [up i (by omega)]; exact lo _ _ i h) (fun i h => by rw [ub i (by omega)]; exact lo _ _ i h)
  have pin : ∀ i, i < 39 → ¬ pi i = 78 := fun i h => by unfold pi; rw [if_pos h]; omega
  have d2 : CSd 0 2 2 (fun _ => 0) 0 false 0 false (fun _ => 0) (fun _ => 0) (fun _ => 0) 0 false 0 (fun _ => 0) 0 (fun _ => 0) (fun _ _ => 0) 0 (fun _ => 0) (fun _ => 0) (fun _ => 0) (fun _ => 0) (pI (pT 39 I1 I2)) (pI (pT 39 J1 J2)) (pI (mm_up (mm_zA (pT 39 A1 A2) 78) 78 0 (4 : Int32))) (pI (mm_zB (pT 39 B1 B2) 78)) := c2.low (fun i h => hi _ _ i h) (fun i h => hi _ _ i h) (fun i h => by
    rw [← hi A1 A2 i h]
    funext j
    show mm_up (mm_zA (pT 39 A1 A2) 78) 78 0 (4 : Int32) (pi i) j = pT 39 A1 A2 (pi i) j
    rw [up _ (pin i h)]) (fun i h => by
    rw [← hi B1 B2 i h]
    funext j
    show mm_zB (pT 39 B1 B2) 78 (pi i) j = pT 39 B1 B2 (pi i) j
    rw [ub _ (pin i h)])
  have D : DRd 0 2 2 (fun _ => 0) 0 false 0 false (fun _ => 0) (fun _ => 0) (fun _ => 0) 0 false 0 (fun _ => 0) 0 (fun _ => 0) (fun _ _ => 0) 0 (fun _ => 0) (fun _ => 0) (fun _ => 0) (fun _ => 0) (mm_up (mm_zA (pT 39 A1 A2) 78) 78 0 (4 : Int32)) := ⟨mm_up_eq _ _ _ _, by rw [mm_up_ne2 _ _ _ _ _ _ (by decide)]; rfl, by rw [mm_up_ne2 _ _ _ _ _ _ (by decide)]; rfl, by rw [mm_up_ne2 _ _ _ _ _ _ (by decide)]; rfl, by rw [mm_up_ne2 _ _ _ _ _ _ (by decide)]; rfl, by rw [mm_up_ne2 _ _ _ _ _ _ (by decide)]; rfl⟩
  obtain ⟨e1, p1, p2⟩ := lw_refused 0 _ _ _ _ d1 bx_first D
  have X0 : RX 0 (pT 39 I1 I2) (pT 39 J1 J2) (mm_up (mm_zA (pT 39 A1 A2) 78) 78 0 (4 : Int32)) (mm_zB (pT 39 B1 B2) 78) := RWd.rx _ _ _ _ ⟨d1, d2, D, bx_first⟩
  obtain ⟨e2, I3, J3, A3, B3, o6, o7, o8, k1, k2, k3⟩ := law_loop Ln xs hL 70 0 e1 _ _ _ _ none none none rfl X0
  have la := law_last Ln xs e2 I3 J3 A3 B3 k2 o6 o7 o8
  refine ⟨(79, e2, mm_R0, I3, J3, A3, B3), ?_, Nat.le_refl _, show e2 ≤ 100000 by omega⟩
  have s0 := sg_L_law_0 Ln xs (RR []) 0 (fun _ _ => 0) (fun _ _ => 0) (fun _ _ => 0) (fun _ _ => 0)
  have z0 : mm_zR (RR []) 0 = RR [] := by
    funext i j
    unfold mm_zR
    rw [RR_no]
    by_cases q : i = 0
    · rw [if_pos q]
    · rw [if_neg q]
  rw [z0, a1] at s0
  refine Eq.trans s0 ?_
  rw [show (none : Option Value) = none from rfl, mm_aft_n, sg_L_law_7, q2, mm_aft_n, sg_L_law_15, show ((0 : Int32)).toInt.toNat = 0 from rfl, p1, mm_aft_v, sg_L_law_30, show (0 : Int32) = i32 0 from rfl, k1]
  exact la
