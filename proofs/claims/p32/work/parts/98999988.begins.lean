/-! the law's new games -/
theorem brd_t : ∀ (a b : Fin 3) (d : Fin 2), ¬ a.1 = 1 → bV a.1 (2 + b.1) (3 + d.1) = true ∧ brP (i32 a.1) (i32 (2 + b.1)) (i32 (3 + d.1)) = true := by decide +kernel
theorem brd_1 : ∀ b : Fin 3, bV 1 (2 + b.1) (2 + b.1) = true ∧ brP (i32 1) (i32 (2 + b.1)) (i32 (2 + b.1)) = true := by decide +kernel
section
variable {K R C : Nat} {lg : Nat → Nat} {m : Nat} {sw : Bool} {ea : Nat} {tk : Bool} {se pe us : Nat → Nat} {lo : Nat} {rc : Bool} {t : Nat} {tp : Nat → Nat} {pn : Nat} {ln : Nat → Nat} {tx : Nat → Nat → Nat} {n : Nat} {ra : Nat → Int} {pl wo ls : Nat → Nat} {c : Nat}
theorem bo_game (hb : BXd K R C lg m sw ea tk se pe us lo rc t tp pn ln tx n ra pl wo ls c) {K' R' C' : Nat} (v : bV K' R' C' = true) (q : brP (i32 K') (i32 R') (i32 C') = true) (y6 : Int32) : Cal f_L_call [.int (0 : Int32), .int (i32 K'), .int (i32 R'), .int (i32 C'), .int y6] (some (.int (i32 (bN K' R' C')))) (fun I J A B => CSd K R C lg m sw ea tk se pe us lo rc t tp pn ln tx n ra pl wo ls I J A B) (fun I J A B => CSd K' R' C' (fun _ => 0) 0 false 0 false (fun _ => 0) (fun _ => 0) (fun _ => 0) 0 false t tp pn ln tx n ra pl wo ls I J A B) := fun e I J A B w => by
  obtain ⟨e', I', J', A', B', r1, r2, r3, r4⟩ := cx_game v q e I J A B w
  exact ⟨e', I', J', A', B', wl_game e I J A B _ _ _ _ r1, r2, r3, r4⟩
theorem beg_run (e : Nat) (I : Nat → Nat → Int32) (J : Nat → Nat → Int64) (A : Nat → Nat → Int32) (B : Nat → Nat → Int64) (h : RWd K R C lg m sw ea tk se pe us lo rc t tp pn ln tx n ra pl wo ls c I J A B) (x3 : Int32) {K' R' C' : Nat} (v : bV K' R' C' = true) (q : brP (i32 K') (i32 R') (i32 C') = true) (hR : R' ≤ 4) (hC : C' ≤ 4) (h1 : K' = 1 → C' = R') : ∃ e' I' J' A' B', mm_run (mm_pr tb_L_begins) (39, [some (.ref 0), some (.ref 39), some (.ref 78), some (.int x3), some (.int (i32 K')), some (.int (i32 R')), none, none], [.int (i32 C')], (79, e, mm_R0, I, J, A, B)) = some (.inl (some (.int 1)), (79, e', mm_R0, I', J', A', B')) ∧ RX c I' J' A' B' ∧ e' ≤ e + 2 := by
  have hb := h.2.2.2
  have hD := h.2.2.1
  have hk := bV_K v
  have bl := bN_le v
  obtain ⟨e', I', J', A', B', q1, q2, q3, q4, q5⟩ := both_of (bo_game hb v q 0) (CSd.lowP _ _ _ _ _ _ _ _ _ _ _ _ _ _ _ _ _ _ _ _ _ _ _) (CSd.lowP _ _ _ _ _ _ _ _ _ _ _ _ _ _ _ _ _ _ _ _ _ _ _) e I J A B h.1 h.2.1
  obtain ⟨y1, y2, y3, y4, y5, y6, y7, y8, y9, y10, y11, y12⟩ := hb
  have w' : WG K' R' C' (fun _ => 0) 0 false := ⟨v, fun i hi => absurd hi (Nat.not_lt_zero _), fun i j _ _ hj => absurd hj (Nat.not_lt_zero _), fun z => by cases z⟩
  have hb' : BXd K' R' C' (fun _ => 0) 0 false 0 false (fun _ => 0) (fun _ => 0) (fun _ => 0) 0 false t tp pn ln tx n ra pl wo ls c := ⟨w', TB.zero, y3, y4, y5, fun j hj => absurd hj (Nat.not_lt_zero _), fun _ => rfl, (fun z => by cases z), y9, y10, hexP v hR hC, y12⟩
  have up : ∀ i, ¬ i = 78 → mm_up (mm_up (mm_up A' 78 0 (i32 (bN K' R' C'))) 78 3 (i32 K')) 78 5 (0 : Int32) i = A' i := fun i hi => by rw [mm_up_row _ _ _ _ _ hi, mm_up_row _ _ _ _ _ hi, mm_up_row _ _ _ _ _ hi]
  have g : ∀ p, ¬ p = 0 → ¬ p = 3 → ¬ p = 5 → mm_up (mm_up (mm_up A' 78 0 (i32 (bN K' R' C'))) 78 3 (i32 K')) 78 5 (0 : Int32) 78 p = A 78 p := fun p x1 x2 x3 => by rw [mm_up_ne2 _ _ _ _ _ _ x3, mm_up_ne2 _ _ _ _ _ _ x2, mm_up_ne2 _ _ _ _ _ _ x1, q4]
  have D2 : DRd K' R' C' (fun _ => 0) 0 false 0 false (fun _ => 0) (fun _ => 0) (fun _ => 0) 0 false t tp pn ln tx n ra pl wo ls (mm_up (mm_up (mm_up A' 78 0 (i32 (bN K' R' C'))) 78 3 (i32 K')) 78 5 (0 : Int32)) := ⟨by rw [mm_up_ne2 _ _ _ _ _ _ (by decide), mm_up_ne2 _ _ _ _ _ _ (by decide), mm_up_eq], by rw [g 1 (by decide) (by decide) (by decide)]; exact hD.2.1, by rw [g 2 (by decide) (by decide) (by decide)]; exact hD.2.2.1, by rw [mm_up_ne2 _ _ _ _ _ _ (by decide), mm_up_eq], by rw [g 4 (by decide) (by decide) (by decide)]; exact hD.2.2.2.2.1, mm_up_eq _ _ _ _⟩
  have c2 := q2.dr up
  refine ⟨e', I', J', _, B', ?_, RWd.rx _ _ _ _ ⟨c2, q3.dr2 up, D2, hb'⟩, by omega⟩
  have t0 := qa_told e' I' J' _ B' c2 w' (show 0 ≤ 2 by decide) (v := 0) (by decide)
  have t2 := qa_told e' I' J' _ B' c2 w' (show 0 ≤ 2 by decide) (v := 2) (by decide)
  have t3 := qa_told e' I' J' _ B' c2 w' (show 0 ≤ 2 by decide) (v := 3) (by decide)
  have k0 := qa_clock e' I' J' _ B' c2 (p := 0) (v := 0) (by decide) (by decide)
  have sz : ∀ p, sN (fun _ => 0) 0 false p = 0 := fun _ => rfl
  have gg : gn (emp (bN K' R' C') (sN (fun _ => 0) 0 false 0) (sN (fun _ => 0) 0 false 1)) = bN K' R' C' := by
    have z := gn_cnt (lg := fun _ => 0) (f := 0) (n := 0) v (fun i hi => absurd hi (Nat.not_lt_zero _)) (fun i j _ _ hj => absurd hj (Nat.not_lt_zero _)) (Nat.le_refl _)
    rw [Nat.sub_self, Nat.add_zero] at z
    have s1 : ∀ p, stN (fun _ => 0) 0 p 0 = 0 := fun _ => rfl
    rw [s1, s1] at z
    rw [sz, sz]
    exact z
  have jj : jnd K' R' C' (sN (fun _ => 0) 0 false 0) (sN (fun _ => 0) 0 false 1) = (-1 : Int32) := by
    rw [sz, sz]
    exact jnd_no.2 ⟨jn_nil v 0, jn_nil v 1⟩
  rw [td_0] at t0
  rw [td_2, gg] at t2
  rw [td_3] at t3
  rw [if_pos rfl] at k0
  have fin : mm_run (mm_pr tb_L_begins) (95, [some (.ref 0), some (.ref 39), some (.ref 78), some (.int x3), some (.int (i32 K')), some (.int (i32 R')), some (.int (i32 C')), some (.int (i32 (bN K' R' C')))], [.int (i32 (bN K' R' C')), .int (i32 (bN K' R' C'))], (79, e', mm_R0, I', J', mm_up (mm_up (mm_up A' 78 0 (i32 (bN K' R' C'))) 78 3 (i32 K')) 78 5 (0 : Int32), B')) = some (.inl (some (.int 1)), (79, e', mm_R0, I', J', mm_up (mm_up (mm_up A' 78 0 (i32 (bN K' R' C'))) 78 3 (i32 K')) 78 5 (0 : Int32), B')) := by
    generalize mm_up (mm_up (mm_up A' 78 0 (i32 (bN K' R' C'))) 78 3 (i32 K')) 78 5 (0 : Int32) = AA at t0 t2 t3 k0 ⊢
    rw [sg_L_begins_95, if_pos rfl, show (0 : Int32) = i32 0 from rfl, t0, mm_aft_v, sg_L_begins_103, if_pos (show i32 0 = (0 : Int32) from rfl), show (2 : Int32) = i32 2 from rfl, t2, mm_aft_v, sg_L_begins_111, if_pos rfl, show (3 : Int32) = i32 3 from rfl, t3, mm_aft_v, sg_L_begins_121, if_pos jj, show (0 : Int32) = i32 0 from rfl, k0, mm_aft_v, sg_L_begins_131, if_pos (show i32 0 = (0 : Int32) from rfl), sg_L_begins_139, if_pos (Or.inr rfl)]
  have nn : ((0 : Int32)).toInt.toNat = 0 ∧ ((3 : Int32)).toInt.toNat = 3 ∧ ((5 : Int32)).toInt.toNat = 5 := ⟨rfl, rfl, rfl⟩
  rw [sg_L_begins_39, q1, mm_aft_v, sg_L_begins_54, nn.1, nn.2.1, nn.2.2]
  by_cases k1 : K' = 1
  · have e1 := h1 k1
    subst k1
    subst e1
    have pr : i32 C' * (i32 C' + (1 : Int32)) / (2 : Int32) = i32 (bN 1 C' C') := by
      rw [show (1 : Int32) = i32 1 from rfl, i32_add, i32_mul]
      have big : C' * (C' + 1) ≤ 4 * 5 := Nat.mul_le_mul hR (by omega)
      exact i32_div (b := 2) (by omega) (by decide) (by decide)
    rw [if_pos (show i32 1 = (1 : Int32) from rfl), pr]
    exact fin
  · have pr : i32 R' * i32 C' = i32 (bN K' R' C') := by
      rw [i32_mul]
      unfold bN
      cases z : Nat.beq K' 1 with
      | true => exact absurd (Nat.eq_of_beq_eq_true z) k1
      | false => rfl
    rw [if_neg (show ¬ i32 K' = (1 : Int32) from fun z => k1 ((i32_eq (b := 1) (by omega) (by decide)).1 z)), pr]
    exact fin
theorem lw_begins (e : Nat) (I : Nat → Nat → Int32) (J : Nat → Nat → Int64) (A : Nat → Nat → Int32) (B : Nat → Nat → Int64) (h : RWd K R C lg m sw ea tk se pe us lo rc t tp pn ln tx n ra pl wo ls c I J A B) (x3 : Int32) : LStp f_L_begins [.ref 0, .ref 39, .ref 78, .int x3] c c 2 e I J A B := by
  obtain ⟨a, a1, a2⟩ := lw_some (79, e, mm_R0, I, J, A, B) x3 (k := 3) (by decide) (by decide)
  obtain ⟨b, b1, b2⟩ := lw_some (79, e, mm_R0, I, J, A, B) (x3 >>> ((3 : Int32) &&& 31)) (k := 3) (by decide) (by decide)
  obtain ⟨d, d1, d2⟩ := lw_some (79, e, mm_R0, I, J, A, B) (x3 >>> ((6 : Int32) &&& 31)) (k := 2) (by decide) (by decide)
  have a2' : f_L_some [.int x3, .int (3 : Int32)] (79, e, mm_R0, I, J, A, B) = some (.inl (some (.int (i32 a))), (79, e, mm_R0, I, J, A, B)) := a2
  have b2' : f_L_some [.int (x3 >>> ((3 : Int32) &&& 31)), .int (3 : Int32)] (79, e, mm_R0, I, J, A, B) = some (.inl (some (.int (i32 b))), (79, e, mm_R0, I, J, A, B)) := b2
  have d2' : f_L_some [.int (x3 >>> ((6 : Int32) &&& 31)), .int (2 : Int32)] (79, e, mm_R0, I, J, A, B) = some (.inl (some (.int (i32 d))), (79, e, mm_R0, I, J, A, B)) := d2
  unfold LStp
  rw [en_L_begins, sg_L_begins_0, a2', mm_aft_v, sg_L_begins_5, b2', mm_aft_v, sg_L_begins_15, show (2 : Int32) + i32 b = i32 (2 + b) from i32_add 2 b]
  by_cases k1 : a = 1
  · subst k1
    rw [if_pos (show i32 1 = (1 : Int32) from rfl)]
    have t := brd_1 ⟨b, b1⟩
    exact beg_run e I J A B h x3 t.1 t.2 (by omega) (by omega) (fun _ => rfl)
  · rw [if_neg (show ¬ i32 a = (1 : Int32) from fun z => k1 ((i32_eq (b := 1) (by omega) (by decide)).1 z)), d2', mm_aft_v, sg_L_begins_38, show (3 : Int32) + i32 d = i32 (3 + d) from i32_add 3 d]
    have t := brd_t ⟨a, a1⟩ ⟨b, b1⟩ ⟨d, d1⟩ k1
    exact beg_run e I J A B h x3 t.1 t.2 (by omega) (by omega) (fun z => absurd z k1)
end
