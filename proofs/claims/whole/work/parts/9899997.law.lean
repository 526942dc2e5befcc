/-! the loop of the law, and its end -/
theorem i32_of (x : Int32) : x = i32 x.toBitVec.toNat := by
  apply Int32.toBitVec_inj.1
  apply BitVec.eq_of_toNat_eq
  show x.toBitVec.toNat = (BitVec.ofNat 32 x.toBitVec.toNat).toNat
  rw [BitVec.toNat_ofNat, Nat.mod_eq_of_lt x.toBitVec.isLt]
theorem and31 (x : Int32) : ∃ k, k < 32 ∧ x &&& (31 : Int32) = i32 k := by
  refine ⟨x.toBitVec.toNat &&& 31, Nat.lt_succ_of_le Nat.and_le_right, ?_⟩
  have h := i32_and x.toBitVec.toNat 31
  rw [← i32_of x] at h
  exact h
/-- where the law's switch goes -/
def swT (k : Nat) : Nat := ([168, 248, 304, 348, 392, 448, 516, 584, 628, 671, 715, 758, 837, 929, 992, 1048, 1116, 1171, 1271, 1284, 1297, 1341, 1408, 1475, 1535, 1591, 1659, 1703, 1771] : List Nat).getD k 1839
theorem sw_at (x : Int32) : ∃ k, k < 32 ∧ (if ((x &&& (31 : Int32))).toInt < 0 ∨ 28 < ((x &&& (31 : Int32))).toInt then 1839 else ([168, 248, 304, 348, 392, 448, 516, 584, 628, 671, 715, 758, 837, 929, 992, 1048, 1116, 1171, 1271, 1284, 1297, 1341, 1408, 1475, 1535, 1591, 1659, 1703, 1771] : List Nat).getD (((x &&& (31 : Int32))).toInt - 0).toNat 1839) = swT k := by
  obtain ⟨k, hk, e⟩ := and31 x
  refine ⟨k, hk, ?_⟩
  rw [e, i32_toInt (by omega)]
  by_cases h : 28 < k
  · rw [if_pos (by omega)]
    unfold swT
    rw [getD_hi _ _ _ (show ([168, 248, 304, 348, 392, 448, 516, 584, 628, 671, 715, 758, 837, 929, 992, 1048, 1116, 1171, 1271, 1284, 1297, 1341, 1408, 1475, 1535, 1591, 1659, 1703, 1771] : List Nat).length ≤ k from h)]
  · rw [if_neg (by omega), show ((k : Int) - 0).toNat = k by omega]
    rfl
theorem WR.next {c : Nat} {I : Nat → Nat → Int32} {J : Nat → Nat → Int64} {A : Nat → Nat → Int32} {B : Nat → Nat → Int64} (h : WR c I J A B) (hk : c < 10000) : WR (c + 1) I J A B := by
  obtain ⟨K, R, C, lg, m, sw, ea, tk, se, pe, us, lo, rc, t, tp, pn, ln, tx, n, ra, pl, wo, ls, hc, hm, hb⟩ := h
  exact ⟨K, R, C, lg, m, sw, ea, tk, se, pe, us, lo, rc, t, tp, pn, ln, tx, n, ra, pl, wo, ls, hc, hm, hb.next hk⟩
/-- one turn of the loop -/
theorem law_turn {Ln : Nat} {xs : Nat → Int32} {i c e : Nat} {I : Nat → Nat → Int32} {J : Nat → Nat → Int64} {A : Nat → Nat → Int32} {B : Nat → Nat → Int64} (hL : Ln ≤ 2560) (hi : i + 5 ≤ Ln) (hk : c < 10000) (h : WR c I J A B) {k : Nat} (h32 : k < 32) : LwS Ln xs c e I J A B (swT k) i := by
  have hW := h
  obtain ⟨K, R, C, lg, m, sw, ea, tk, se, pe, us, lo, rc, t, tp, pn, ln, tx, n, ra, pl, wo, ls, hc, hm, hb⟩ := h
  match k, h32 with
  | 0, _ => exact lc_game hi hL (fun x1 x2 x3 => st_game hc hm hb hk x1 x2 x3)
  | 1, _ => exact lc_move hi hL (fun x1 => st_move hc hm hb hk x1)
  | 2, _ => exact lc_swap (st_swap hc hm hb hk)
  | 3, _ => exact lc_undo (st_undo hc hm hb hk)
  | 4, _ => exact lc_told hi hL (fun x1 => st_told hc hm hb hk x1)
  | 5, _ => exact lc_cell hi hL (fun x1 x2 => st_cell hc hm hb hk x1 x2)
  | 6, _ => exact lc_neighbour hi hL (fun x1 x2 => st_neighbour hc hm hb hk x1 x2)
  | 7, _ => exact lc_best (st_best hc hm hb hk)
  | 8, _ => exact lc_wins (st_wins hc hm hb hk)
  | 9, _ => exact lc_lasts (st_lasts hc hm hb hk)
  | 10, _ => exact lc_dead (st_dead hc hm hb hk)
  | 11, _ => exact lc_carrier hi hL (fun x1 x2 x3 => st_carrier hc hm hb hk x1 x2 x3)
  | 12, _ => exact lc_answer hi hL (fun x1 x2 x3 x4 => st_answer hc hm hb hk x1 x2 x3 x4)
  | 13, _ => exact lc_gaveAway hi hL (fun x1 => st_gaveAway hc hm hb hk x1)
  | 14, _ => exact lc_far hi hL (fun x1 => st_far hc hm hb hk x1)
  | 15, _ => exact lc_plays hi hL (fun x1 x2 => st_plays hc hm hb hk x1 x2)
  | 16, _ => exact lc_playedOut hi hL (fun x1 => st_playedOut hc hm hb hk x1)
  | 17, _ => exact lc_type hi hL (fun x1 x2 => st_type hc hm hb hk x1 x2)
  | 18, _ => exact lc_wipe (st_wipe hc hm hb hk)
  | 19, _ => exact lc_fault (st_fault hc hm hb hk)
  | 20, _ => exact lc_pattern (st_pattern hc hm hb hk)
  | 21, _ => exact lc_fits hi hL (fun x1 x2 => st_fits hc hm hb hk x1 x2)
  | 22, _ => exact lc_fitsAnew hi hL (fun x1 x2 => st_fitsAnew hc hm hb hk x1 x2)
  | 23, _ => exact lc_clocks hi hL (fun x1 x2 x3 => st_clocks hc hm hb hk x1 x2 x3)
  | 24, _ => exact lc_think hi hL (fun x1 => st_think hc hm hb hk x1)
  | 25, _ => exact lc_clock hi hL (fun x1 x2 => st_clock hc hm hb hk x1 x2)
  | 26, _ => exact lc_person (st_person hc hm hb hk)
  | 27, _ => exact lc_record hi hL (fun x1 x2 => st_record hc hm hb hk x1 x2)
  | 28, _ => exact lc_ofPerson hi hL (fun x1 x2 => st_ofPerson hc hm hb hk x1 x2)
  | 29, _ => exact fun o5 o6 o7 => ⟨o5, o6, o7, e, I, J, A, B, rfl, by omega, hW.next hk⟩
  | 30, _ => exact fun o5 o6 o7 => ⟨o5, o6, o7, e, I, J, A, B, rfl, by omega, hW.next hk⟩
  | 31, _ => exact fun o5 o6 o7 => ⟨o5, o6, o7, e, I, J, A, B, rfl, by omega, hW.next hk⟩
  | _ + 32, h => exact absurd h (by omega)
theorem head_lt {Ln i : Nat} (hL : Ln ≤ 2560) (hi : i ≤ Ln) (h5 : i + 5 ≤ Ln ∨ (Ln < i + 5 ∧ (Ln < 5 → i = 0))) : ((Int32.ofNat Ln) - (5 : Int32)) < i32 i ↔ Ln < i + 5 := by
  by_cases h : 5 ≤ Ln
  · rw [show (Int32.ofNat Ln) - (5 : Int32) = i32 (Ln - 5) from i32_sub h, i32_lt (by omega) (by omega)]
    omega
  · have i0 : i = 0 := by omega
    subst i0
    have : Ln = 0 ∨ Ln = 1 ∨ Ln = 2 ∨ Ln = 3 ∨ Ln = 4 := by omega
    refine ⟨fun _ => by omega, fun _ => ?_⟩
    rcases this with rfl | rfl | rfl | rfl | rfl <;> decide
theorem law_loop {Ln : Nat} {xs : Nat → Int32} (hL : Ln ≤ 2560) : ∀ (d j e : Nat) (I : Nat → Nat → Int32) (J : Nat → Nat → Int64) (A : Nat → Nat → Int32) (B : Nat → Nat → Int64) (o5 o6 o7 : Option Value), Ln < 5 * j + 5 * d → 5 * j ≤ Ln → e ≤ j → WR j I J A B →
    ∃ S' : mm_S, mm_run (pc_law Ln xs) (23, [some (.ref 2000), some (.ref 0), some (.ref 39), some (.ref 64), some (.int (i32 (5 * j))), o5, o6, o7], [], (65, e, mm_R0, I, J, A, B)) = some (.inl (some (.int 1)), S') ∧ S'.1 ≤ 65 ∧ S'.2.1 ≤ 2560 := by
  intro d
  induction d with
  | zero => intro j e I J A B o5 o6 o7 h1 h2; omega
  | succ d ih =>
    intro j e I J A B o5 o6 o7 h1 h2 he hW
    have hh := head_lt (i := 5 * j) hL h2 (by omega)
    rw [sg_L_law_23]
    by_cases h : Ln < 5 * j + 5
    · rw [if_pos (hh.2 h)]
      exact ⟨_, rfl, Nat.le_refl _, show e ≤ 2560 by omega⟩
    · rw [if_neg (fun z => h (hh.1 z)), if_pos (show 0 ≤ (i32 (5 * j)).toInt ∧ (i32 (5 * j)).toInt < (Ln : Int) from (i32_in (by omega)).2 (by omega))]
      obtain ⟨k, k32, hs⟩ := sw_at (xs (i32 (5 * j)).toInt.toNat)
      rw [hs]
      obtain ⟨p5, p6, p7, e', I', J', A', B', r1, r2, r3⟩ := law_turn (xs := xs) (i := 5 * j) (e := e) hL (by omega) (by omega) hW k32 o5 o6 o7
      rw [r1, sg_L_law_1839, show i32 (5 * j) + (5 : Int32) = i32 (5 * (j + 1)) from i32_add _ _]
      exact ih (j + 1) e' I' J' A' B' p5 p6 p7 (by omega) (by omega) (by omega) r3
theorem law_pure : ∀ (Ln : Nat) (xs : Nat → Int32), Ln ≤ 2560 → ∃ S' : mm_S, mm_run (pc_law Ln xs) (0, mm_en 8 [.ref 2000], [], mm_S0) = some (.inl (some (.int 1)), S') ∧ S'.1 ≤ 65 ∧ S'.2.1 ≤ 2560 := by
  intro Ln xs hL
  obtain ⟨I1, J1, A1, B1, a1, g1, t1, r1, y1, p1, l1, l2⟩ := cC_init 0 (fun _ _ => 0) (fun _ _ => 0) (fun _ _ => 0) (fun _ _ => 0)
  obtain ⟨I2, A2, B2, b1, g2, t2, r2, y2, p2, l3, fI, fA, fB⟩ := cM_init 0 I1 J1 A1 B1
  have e0 : mm_run (pc_law Ln xs) (0, mm_en 8 [.ref 2000], [], mm_S0) = mm_run (pc_law Ln xs) (0, [some (.ref 2000), none, none, none, none, none, none, none], [], (0, 0, RR [], fun _ _ => 0, fun _ _ => 0, fun _ _ => 0, fun _ _ => 0)) := rfl
  have full : RR lM = mm_R0 := RR_full (by decide +kernel) (by decide +kernel) (by decide +kernel)
  rw [e0, sg_L_law_0, RR_z _ 0 (by decide +kernel), a1, mm_aft_n, sg_L_law_7, RR_z _ 39 (by decide +kernel), b1, mm_aft_n, sg_L_law_15, full]
  have hx : ∀ i, i < 39 → mm_zJ J1 39 i = J1 i := fun i hi => zJ_ne _ _ _ (by omega)
  have cs : CSd 0 2 2 (fun _ => 0) 0 false 0 false (fun _ => 0) (fun _ => 0) (fun _ => 0) 0 false 0 (fun _ => 0) 0 (fun _ => 0) (fun _ _ => 0) 0 (fun _ => 0) (fun _ => 0) (fun _ => 0) (fun _ => 0) I1 J1 A1 B1 := ⟨g1, t1, r1, ⟨y1, by decide, fun j hj => absurd hj (Nat.not_lt_zero _)⟩, ⟨p1, by decide, fun j hj => absurd hj (Nat.not_lt_zero _)⟩, fun j hj => absurd hj (Nat.not_lt_zero _), ⟨l1, by decide, fun j hj => absurd hj (Nat.not_lt_zero _), fun p _ => l2 p⟩⟩
  have ms : MSd 0 2 2 (fun _ => 0) 0 false 0 false (fun _ => 0) (fun _ => 0) (fun _ => 0) 0 false 0 (fun _ => 0) 0 (fun _ => 0) (fun _ _ => 0) 0 (fun _ => 0) (fun _ => 0) (fun _ => 0) (fun _ => 0) I2 A2 B2 := ⟨g2, t2, r2, ⟨y2, by decide, fun j hj => absurd hj (Nat.not_lt_zero _)⟩, ⟨p2, by decide, fun j hj => absurd hj (Nat.not_lt_zero _)⟩, ⟨l3, by decide, fun j hj => absurd hj (Nat.not_lt_zero _), fun j hj => absurd hj (Nat.not_lt_zero _)⟩⟩
  have bs : BSd 0 2 2 (fun _ => 0) 0 false 0 false (fun _ => 0) (fun _ => 0) (fun _ => 0) 0 false 0 (fun _ => 0) 0 (fun _ => 0) (fun _ _ => 0) 0 (fun _ => 0) (fun _ => 0) (fun _ => 0) (fun _ => 0) 0 := ⟨⟨by decide, fun i hi => absurd hi (Nat.not_lt_zero _), fun i j _ _ h3 => absurd h3 (Nat.not_lt_zero _), fun z => (by cases z)⟩, TB.zero, YB.zero, fun j hj => absurd hj (Nat.not_lt_zero _), ⟨fun j hj => absurd hj (Nat.not_lt_zero _), fun _ _ => ⟨rfl, rfl⟩⟩, by decide⟩
  have cs2 : CSd 0 2 2 (fun _ => 0) 0 false 0 false (fun _ => 0) (fun _ => 0) (fun _ => 0) 0 false 0 (fun _ => 0) 0 (fun _ => 0) (fun _ _ => 0) 0 (fun _ => 0) (fun _ => 0) (fun _ => 0) (fun _ => 0) I2 (mm_zJ J1 39) (mm_zA A2 64) (mm_zB B2 64) := by
    obtain ⟨q1, q2, q3, q4, q5, q6, q7⟩ := cs
    have hA : ∀ i, i < 39 → mm_zA A2 64 i = A1 i := fun i hi => by rw [zA_ne _ _ _ (by omega), fA i (by omega)]
    have hI : ∀ i, i < 39 → I2 i = I1 i := fun i hi => fI i (by omega)
    exact ⟨q1.low I1 J1 A1 B1 (fun i hi => hI i (by omega)) (fun i hi => hx i (by omega)) (fun i hi => hA i (by omega)) (fun i hi => by rw [zB_ne _ _ _ (by omega), fB i (by omega)]), q2.co (hI 30 (by decide)) (hA 31 (by decide)) (hA 32 (by decide)) (hA 33 (by decide)), by rw [hI 0 (by decide)]; exact q3, q4.co (by rw [hI 24 (by decide)]) (hA 25 (by decide)), q5.co (by rw [hI 24 (by decide)]) (hA 26 (by decide)) (hA 27 (by decide)), q6.co (hA 28 (by decide)) (hA 29 (by decide)), q7.co (by rw [hI 34 (by decide)]) (hA 35 (by decide)) (hA 36 (by decide)) (hA 37 (by decide)) (hA 38 (by decide))⟩
  have ms2 : MSd 0 2 2 (fun _ => 0) 0 false 0 false (fun _ => 0) (fun _ => 0) (fun _ => 0) 0 false 0 (fun _ => 0) 0 (fun _ => 0) (fun _ _ => 0) 0 (fun _ => 0) (fun _ => 0) (fun _ => 0) (fun _ => 0) I2 (mm_zA A2 64) (mm_zB B2 64) := by
    obtain ⟨q1, q2, q3, q4, q5, q6⟩ := ms
    have hA : ∀ i, i ≠ 64 → mm_zA A2 64 i = A2 i := fun i hi => zA_ne _ _ _ hi
    have hB : ∀ i, i ≠ 64 → mm_zB B2 64 i = B2 i := fun i hi => zB_ne _ _ _ hi
    exact ⟨q1.low I2 A2 B2 (fun _ _ => rfl) (fun i hi => hA i (by omega)) (hA 51 (by decide)) (fun i hi => hB i (by omega)), q2.co rfl rfl rfl (hA 47 (by decide)) (hA 48 (by decide)) (hA 49 (by decide)), q3, q4.co rfl (hA 55 (by decide)), q5.co rfl (hA 56 (by decide)) (hA 57 (by decide)), q6.co rfl (hA 58 (by decide)) (hA 59 (by decide)) (hA 60 (by decide)) (hA 61 (by decide))⟩
  exact law_loop hL 513 0 0 I2 (mm_zJ J1 39) (mm_zA A2 64) (mm_zB B2 64) none none none (by omega) (by omega) (Nat.le_refl _) ⟨_, _, _, _, _, _, _, _, _, _, _, _, _, _, _, _, _, _, _, _, _, _, _, cs2, ms2, bs⟩
