/-! the law's people and clocks -/
def pathB (K R C : Nat) : Bool := !Nat.beq K 2 || (sdS K R C 0 0 && sdS K R C 1 ((R - 1) * C) && (List.range (R - 1)).all (fun r => bBe K R C (r * C) ((r + 1) * C)))
theorem path_t : bAll pathB = true := by decide +kernel
/-- the whole of a cylinder joins its two ends -/
theorem cyl_all {R C : Nat} (v : bV 2 R C = true) {w : Int64} (hw : ∀ c, c < bN 2 R C → mb w c = true) : ldB 2 R C 0 1 w = true := by
  have hk := bV_K v
  have bl := bN_le v
  have nn : bN 2 R C = R * C := rfl
  have t := bAll_of path_t v
  unfold pathB at t
  rw [show (!Nat.beq 2 2) = false from rfl, Bool.false_or, Bool.and_eq_true, Bool.and_eq_true, List.all_eq_true] at t
  have pos : ∀ r, r < R → r * C < bN 2 R C := fun r hr => by
    rw [nn]; exact Nat.mul_lt_mul_of_pos_right hr (by omega)
  have p : ∀ r, r < R → Conn (bN 2 R C) (bNb 2 R C) (bSs 2 R C 0) w (r * C) := by
    intro r
    induction r with
    | zero =>
      intro hr
      have p0 := pos 0 hr
      rw [Nat.zero_mul] at p0 ⊢
      exact Conn.base p0 (by rw [sd_mb v 0 0 p0]; exact t.1.1) (hw _ p0)
    | succ r ih =>
      intro hr
      refine Conn.step (pos _ hr) (ih (by omega)) ?_ (hw _ (pos _ hr))
      unfold bNb
      rw [mb_ms _ _ _ (by omega), decide_eq_true (pos _ hr), Bool.true_and]
      exact t.2 r (List.mem_range.2 (by omega))
  exact (ldB_hit v 0 1 w).2 ⟨(R - 1) * C, pos _ (by omega), p (R - 1) (by omega), t.1.2⟩
/-- nobody has joined anything on an empty board -/
theorem jn_nil {K R C : Nat} (v : bV K R C = true) (p : Nat) : jnB K R C p 0 = false := by
  have no : ∀ s t, ldB K R C s t 0 = false := fun s t => bool_f (fun z => by
    obtain ⟨c, _, h, _⟩ := (ldB_hit v s t 0).1 z
    have := h.w
    rw [mb_zero] at this; cases this)
  unfold jnB
  cases e1 : Nat.beq K 1 with
  | true =>
    have z : (0 : Int64) &&& bSs K R C 0 = 0 := by
      apply mb_ext; intro c _; rw [mb_and, mb_zero, Bool.false_and]
    rw [z]
    exact alF_0 _ _ _ _ _
  | false =>
    cases e2 : Nat.beq K 2 && Nat.beq p 1 with
    | true =>
      rw [Bool.and_eq_true] at e2
      have k2 : K = 2 := Nat.eq_of_beq_eq_true e2.1
      subst k2
      show (!ldB 2 R C 0 1 (cplS 2 R C 0)) = false
      rw [cyl_all v (fun c hc => by rw [mb_cplS v _ hc, mb_zero]; rfl)]
      rfl
    | false =>
      show (bif Nat.beq p 0 then ldB K R C 0 1 0 else ldB K R C 2 3 0) = false
      rw [no, no]
      cases Nat.beq p 0 <;> rfl
theorem wnr_nil {K R C : Nat} (v : bV K R C = true) (lg : Nat → Nat) (sw : Bool) : wnr K R C lg 0 sw 0 = iN := by
  unfold wnr
  rw [if_pos rfl]
  exact jnd_no.2 ⟨jn_nil v 0, jn_nil v 1⟩
section
variable {K R C : Nat} {lg : Nat → Nat} {m : Nat} {sw : Bool} {ea : Nat} {tk : Bool} {se pe us : Nat → Nat} {lo : Nat} {rc : Bool} {t : Nat} {tp : Nat → Nat} {pn : Nat} {ln : Nat → Nat} {tx : Nat → Nat → Nat} {n : Nat} {ra : Nat → Int} {pl wo ls : Nat → Nat} {c : Nat}
theorem RX.up (I : Nat → Nat → Int32) (J : Nat → Nat → Int64) (A : Nat → Nat → Int32) (B : Nat → Nat → Int64) (h : RX c I J A B) (hc : c + 1 ≤ 10000) : RX (c + 1) I J A B := by
  obtain ⟨K, R, C, lg, m, sw, ea, tk, se, pe, us, lo, rc, t, tp, pn, ln, tx, n, ra, pl, wo, ls, h1, h2, h3, b1, b2, b3, b4, b5, b6, b7, b8, b9, b10, b11, b12, b13⟩ := h
  exact ⟨K, R, C, lg, m, sw, ea, tk, se, pe, us, lo, rc, t, tp, pn, ln, tx, n, ra, pl, wo, ls, h1, h2, h3, b1, b2, b3, b4, b5.next, b6, b7, b8, b9, b10, b11, hc, fun p => Nat.le_succ_of_le (b13 p)⟩
theorem ppl_person (e : Nat) (I : Nat → Nat → Int32) (J : Nat → Nat → Int64) (A : Nat → Nat → Int32) (B : Nat → Nat → Int64) (h : RWd K R C lg m sw ea tk se pe us lo rc t tp pn ln tx n ra pl wo ls c I J A B) (hc1 : c + 1 ≤ 10000) (x3 x4 x5 : Int32) : ∃ e' I' J' A' B', mm_aft (mm_pr tb_L_people) 25 [some (.ref 0), some (.ref 39), some (.ref 78), some (.int x3), some (.int x4), some (.int x5), none, none, none, none, none, none] [] (f_L_both [.ref 0, .ref 39, .int (19 : Int32), .int (0 : Int32), .int (0 : Int32), .int (0 : Int32), .int (0 : Int32)] (79, e, mm_R0, I, J, A, B)) = some (.inl (some (.int 1)), (79, e', mm_R0, I', J', A', B')) ∧ RX (c + 1) I' J' A' B' ∧ e' ≤ e + 2 := by
  obtain ⟨h1, h2, hD, hb⟩ := h
  have hn : n ≤ 10 := h1.2.2.2.2.2.2.2.1
  have i2 : 0 ≤ ((2 : Int32)).toInt ∧ ((2 : Int32)).toInt < 6 := by decide
  have n2 : ((2 : Int32)).toInt.toNat = 2 := rfl
  by_cases q : n < 10
  · have k2 : Cal f_L_call [.int (19 : Int32), .int (0 : Int32), .int (0 : Int32), .int (0 : Int32), .int (0 : Int32)] (some (.int (i32 n))) (fun I J A B => CSd K R C lg m sw ea tk se pe us lo rc t tp pn ln tx n ra pl wo ls I J A B) (fun I J A B => CSd K R C lg m sw ea tk se pe us lo rc t tp pn ln tx (n + 1) (raN ra n) (upN pl n n) wo ls I J A B) := fun e I J A B w => by
      obtain ⟨e', I', J', A', B', r1, r2, r3, r4⟩ := cx_person q e I J A B w
      exact ⟨e', I', J', A', B', wl_person e I J A B _ _ _ _ r1, r2, r3, r4⟩
    obtain ⟨e', I', J', A', B', q1, q2, q3, q4, q5⟩ := both_of k2 (CSd.lowP _ _ _ _ _ _ _ _ _ _ _ _ _ _ _ _ _ _ _ _ _ _ _) (CSd.lowP _ _ _ _ _ _ _ _ _ _ _ _ _ _ _ _ _ _ _ _ _ _ _) e I J A B h1 h2
    have a2 : A' 78 2 = i32 n := by rw [q4]; exact hD.2.2.1
    have up : ∀ i, ¬ i = 78 → mm_up A' 78 2 (i32 (n + 1)) i = A' i := fun i hi => mm_up_row _ _ _ _ _ hi
    have g : ∀ p, ¬ p = 2 → mm_up A' 78 2 (i32 (n + 1)) 78 p = A 78 p := fun p x1 => by rw [mm_up_ne2 _ _ _ _ _ _ x1, q4]
    have g2 : mm_up A' 78 2 (i32 (n + 1)) 78 2 = i32 (n + 1) := mm_up_eq _ _ _ _
    have D2 : DRd K R C lg m sw ea tk se pe us lo rc t tp pn ln tx (n + 1) (raN ra n) (upN pl n n) wo ls (mm_up A' 78 2 (i32 (n + 1))) := ⟨by rw [g 0 (by decide)]; exact hD.1, by rw [g 1 (by decide)]; exact hD.2.1, g2, by rw [g 3 (by decide)]; exact hD.2.2.2.1, by rw [g 4 (by decide)]; exact hD.2.2.2.2.1, by rw [g 5 (by decide)]; exact hD.2.2.2.2.2⟩
    obtain ⟨b1, b2, b3, b4, b5, b6, b7, b8, b9, b10, b11, b12, b13⟩ := hb
    have hb' : BXd K R C lg m sw ea tk se pe us lo rc t tp pn ln tx (n + 1) (raN ra n) (upN pl n n) wo ls (c + 1) := ⟨b1, b2, b3, b4, b5.add hn, b6, b7, b8, b9.add, b10.add, b11, hc1, fun p => Nat.le_succ_of_le (b13 p)⟩
    have c2 := q2.dr up
    refine ⟨e', I', J', _, B', ?_, RWd.rx _ _ _ _ ⟨c2, q3.dr2 up, D2, hb'⟩, by omega⟩
    have bn := big_ne (a := n) (by omega)
    have p0 := qa_ofP e' I' J' _ B' c2 (p := n) (v := 0) (by omega) (by decide)
    have p1 := qa_ofP e' I' J' _ B' c2 (p := n) (v := 1) (by omega) (by decide)
    have s0 : shV (raN ra n) (upN pl n n) wo ls n 0 = (1000 : Int32) := by
      show si (raN ra n n) = _
      unfold raN
      rw [if_pos rfl]; rfl
    have s1 : shV (raN ra n) (upN pl n n) wo ls n 1 = i32 n := by
      show i32 (upN pl n n n) = _
      unfold upN
      rw [if_pos rfl]
    rw [s0] at p0
    rw [s1] at p1
    rw [q1, mm_aft_v, sg_L_people_25, if_neg (show ¬ i32 n < 0 by rw [show (0 : Int32) = i32 0 from rfl, i32_lt (by omega) (by decide)]; omega), sg_L_people_41, if_pos i2, n2, a2, show i32 n + (1 : Int32) = i32 (n + 1) from i32_add n 1, if_neg bn.2.1, g2, show i32 (n + 1) - (1 : Int32) = i32 n by rw [show (1 : Int32) = i32 1 from rfl, i32_sub (by omega)]; rfl, if_pos rfl, show (0 : Int32) = i32 0 from rfl, p0, mm_aft_v, sg_L_people_83, if_pos rfl, show (1 : Int32) = i32 1 from rfl, p1, mm_aft_v, sg_L_people_96, if_pos rfl, sg_L_people_106, if_pos (Or.inr rfl)]
    rfl
  · have k2 : Cal f_L_call [.int (19 : Int32), .int (0 : Int32), .int (0 : Int32), .int (0 : Int32), .int (0 : Int32)] (some (.int (-2000000003 : Int32))) (fun I J A B => CSd K R C lg m sw ea tk se pe us lo rc t tp pn ln tx n ra pl wo ls I J A B) (fun I J A B => CSd K R C lg m sw ea tk se pe us lo rc t tp pn ln tx n ra pl wo ls I J A B) := Cal.no (fun e I J A B w => wx_person_3 e I J A B _ _ _ _ (cC_person_no e I J A B w.2.2.2.2.2.2 q))
    obtain ⟨e', I', J', A', B', q1, q2, q3, q4, q5⟩ := both_of k2 (CSd.lowP _ _ _ _ _ _ _ _ _ _ _ _ _ _ _ _ _ _ _ _ _ _ _) (CSd.lowP _ _ _ _ _ _ _ _ _ _ _ _ _ _ _ _ _ _ _ _ _ _ _) e I J A B h1 h2
    refine ⟨e', I', J', A', B', ?_, RX.up _ _ _ _ (RWd.rx _ _ _ _ ⟨q2, q3, hD.co q4, hb⟩) hc1, by omega⟩
    have a2 : A' 78 2 = (10 : Int32) := by rw [q4, hD.2.2.1, show n = 10 by omega]; rfl
    rw [q1, mm_aft_v, sg_L_people_25, if_pos (show (-2000000003 : Int32) < 0 by decide), sg_L_people_41, if_pos i2, n2, Int32.add_zero, mm_up_same, if_pos rfl, a2, if_pos rfl, sg_L_people_106, if_pos (Or.inr rfl)]
theorem bo_clocks (hb : BXd K R C lg m sw ea tk se pe us lo rc t tp pn ln tx n ra pl wo ls c) {s p d : Nat} (h1 : s ≤ 3600) (h2 : p ≤ 9) (h3 : 1 ≤ d) (h4 : d ≤ 60) (h5 : 0 < s + p) (y6 : Int32) : (tk = false ∧ m = 0 ∧ Cal f_L_call [.int (16 : Int32), .int (i32 s), .int (i32 p), .int (i32 d), .int y6] (some (.int (0 : Int32))) (fun I J A B => CSd K R C lg m sw ea tk se pe us lo rc t tp pn ln tx n ra pl wo ls I J A B) (fun I J A B => CSd K R C lg m sw d true (fun _ => s) (fun _ => p) (fun _ => 0) 0 rc t tp pn ln tx n ra pl wo ls I J A B)) ∨ ((tk = true ∨ ¬ m = 0) ∧ Cal f_L_call [.int (16 : Int32), .int (i32 s), .int (i32 p), .int (i32 d), .int y6] (some (.int (-2000000003 : Int32))) (fun I J A B => CSd K R C lg m sw ea tk se pe us lo rc t tp pn ln tx n ra pl wo ls I J A B) (fun I J A B => CSd K R C lg m sw ea tk se pe us lo rc t tp pn ln tx n ra pl wo ls I J A B)) := by
  have hl := hb.2.1.1
  have late : (tk = true ∨ ¬ m = 0) → Cal f_L_call [.int (16 : Int32), .int (i32 s), .int (i32 p), .int (i32 d), .int y6] (some (.int (-2000000003 : Int32))) (fun I J A B => CSd K R C lg m sw ea tk se pe us lo rc t tp pn ln tx n ra pl wo ls I J A B) (fun I J A B => CSd K R C lg m sw ea tk se pe us lo rc t tp pn ln tx n ra pl wo ls I J A B) := fun z => Cal.no (fun e I J A B w => wx_clocks_3 e I J A B _ _ _ _ (cC_clocks_2 e I J A B w.1 w.2.1 hl h1 h2 h3 h4 h5 (by
    rcases z with z | z
    · exact Or.inl z
    · exact Or.inr (Or.inl (by omega)))))
  cases q : tk with
  | true => exact Or.inr ⟨Or.inl rfl, by have := late (Or.inl q); rw [q] at this; exact this⟩
  | false =>
    by_cases m0 : m = 0
    · have l0 := hb.2.2.2.2.2.2.1 q
      have hw : wnr K R C lg m sw lo = iN := by rw [l0, m0]; exact wnr_nil hb.1.1 lg sw
      refine Or.inl ⟨rfl, m0, fun e I J A B w => ?_⟩
      obtain ⟨e', I', J', A', B', r1, r2, r3, r4⟩ := cx_clocks (ea := ea) (tk := false) (se := se) (pe := pe) (us := us) rfl hl h1 h2 h3 h4 h5 m0 hw e I J A B w
      exact ⟨e', I', J', A', B', wl_clocks e I J A B _ _ _ _ r1, r2, r3, r4⟩
    · exact Or.inr ⟨Or.inr m0, by have := late (Or.inr m0); rw [q] at this; exact this⟩
theorem bo_think (hb : BXd K R C lg m sw ea tk se pe us lo rc t tp pn ln tx n ra pl wo ls c) {d : Nat} (h1 : 1 ≤ d) (h2 : d ≤ 600) (y4 y5 y6 : Int32) : (tk = true ∧ wnr K R C lg m sw lo = iN ∧ Cal f_L_call [.int (17 : Int32), .int (i32 d), .int y4, .int y5, .int y6] (some (.int (wnr K R C lg m sw (usL ea se pe us (m % 2) d)))) (fun I J A B => CSd K R C lg m sw ea tk se pe us lo rc t tp pn ln tx n ra pl wo ls I J A B) (fun I J A B => CSd K R C lg m sw ea tk (seV se (m % 2) d) (peV ea se pe us (m % 2) d) (usV ea se pe us (m % 2) d) (usL ea se pe us (m % 2) d) rc t tp pn ln tx n ra pl wo ls I J A B)) ∨ ((tk = false ∨ ¬ wnr K R C lg m sw lo = iN) ∧ Cal f_L_call [.int (17 : Int32), .int (i32 d), .int y4, .int y5, .int y6] (some (.int (-2000000003 : Int32))) (fun I J A B => CSd K R C lg m sw ea tk se pe us lo rc t tp pn ln tx n ra pl wo ls I J A B) (fun I J A B => CSd K R C lg m sw ea tk se pe us lo rc t tp pn ln tx n ra pl wo ls I J A B)) := by
  have hl := hb.2.1.1
  have no : (tk = false ∨ ¬ wnr K R C lg m sw lo = iN) → Cal f_L_call [.int (17 : Int32), .int (i32 d), .int y4, .int y5, .int y6] (some (.int (-2000000003 : Int32))) (fun I J A B => CSd K R C lg m sw ea tk se pe us lo rc t tp pn ln tx n ra pl wo ls I J A B) (fun I J A B => CSd K R C lg m sw ea tk se pe us lo rc t tp pn ln tx n ra pl wo ls I J A B) := fun z => Cal.no (fun e I J A B w => wx_think_3 e I J A B _ _ _ _ (cC_think_2 e I J A B w.1 w.2.1 hl h1 h2 z))
  by_cases hw : wnr K R C lg m sw lo = iN
  · cases q : tk with
    | false => exact Or.inr ⟨Or.inl rfl, by have := no (Or.inl q); rw [q] at this; exact this⟩
    | true =>
      refine Or.inl ⟨rfl, hw, fun e I J A B w => ?_⟩
      obtain ⟨e', I', J', A', B', r1, r2, r3, r4⟩ := cx_think (tk := true) rfl (by rw [← q]; exact hb.2.1) h1 h2 hw e I J A B w
      exact ⟨e', I', J', A', B', wl_think e I J A B _ _ _ _ r1, r2, r3, r4⟩
  · exact Or.inr ⟨Or.inr hw, no (Or.inr hw)⟩
end
