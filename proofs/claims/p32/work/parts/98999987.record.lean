/-! the law's people: what is recorded -/
section
variable {K R C : Nat} {lg : Nat → Nat} {m : Nat} {sw : Bool} {ea : Nat} {tk : Bool} {se pe us : Nat → Nat} {lo : Nat} {rc : Bool} {t : Nat} {tp : Nat → Nat} {pn : Nat} {ln : Nat → Nat} {tx : Nat → Nat → Nat} {n : Nat} {ra : Nat → Int} {pl wo ls : Nat → Nat} {c : Nat}
theorem bo_record (hb : BXd K R C lg m sw ea tk se pe us lo rc t tp pn ln tx n ra pl wo ls c) {x y : Nat} (hx5 : x < 5) (hy5 : y < 5) (hn : n ≤ 10) (y5 y6 : Int32) : (¬ (x < n ∧ y < n) ∧ Cal f_L_call [.int (20 : Int32), .int (i32 x), .int (i32 y), .int y5, .int y6] (some (.int (-2000000001 : Int32))) (fun I J A B => CSd K R C lg m sw ea tk se pe us lo rc t tp pn ln tx n ra pl wo ls I J A B) (fun I J A B => CSd K R C lg m sw ea tk se pe us lo rc t tp pn ln tx n ra pl wo ls I J A B)) ∨ (x < n ∧ y < n ∧ x = y ∧ Cal f_L_call [.int (20 : Int32), .int (i32 x), .int (i32 y), .int y5, .int y6] (some (.int (-2000000002 : Int32))) (fun I J A B => CSd K R C lg m sw ea tk se pe us lo rc t tp pn ln tx n ra pl wo ls I J A B) (fun I J A B => CSd K R C lg m sw ea tk se pe us lo rc t tp pn ln tx n ra pl wo ls I J A B)) ∨ (x < n ∧ y < n ∧ ¬ x = y ∧ (wnr K R C lg m sw lo = iN ∨ rc = true) ∧ Cal f_L_call [.int (20 : Int32), .int (i32 x), .int (i32 y), .int y5, .int y6] (some (.int (-2000000003 : Int32))) (fun I J A B => CSd K R C lg m sw ea tk se pe us lo rc t tp pn ln tx n ra pl wo ls I J A B) (fun I J A B => CSd K R C lg m sw ea tk se pe us lo rc t tp pn ln tx n ra pl wo ls I J A B)) ∨ (x < n ∧ y < n ∧ ¬ x = y ∧ ¬ wnr K R C lg m sw lo = iN ∧ rc = false ∧ ∀ w l, ((wnr K R C lg m sw lo = i32 0 ∧ w = x ∧ l = y) ∨ (¬ wnr K R C lg m sw lo = i32 0 ∧ w = y ∧ l = x)) → Cal f_L_call [.int (20 : Int32), .int (i32 x), .int (i32 y), .int y5, .int y6] (some (.int (si (raV ra w l w)))) (fun I J A B => CSd K R C lg m sw ea tk se pe us lo false t tp pn ln tx n ra pl wo ls I J A B) (fun I J A B => CSd K R C lg m sw ea tk se pe us lo true t tp pn ln tx n (raV ra w l) (plcV pl w l) (upN wo w (wo w + 1)) (upN ls l (ls l + 1)) I J A B)) := by
  have hl := hb.2.1.1
  have cel : ∀ z, z < 5 → (cellP n (i32 z) = true ↔ z < n) := fun z hz => by
    unfold cellP
    rw [Bool.and_eq_true, decide_eq_true_eq, Bool.not_eq_true', decide_eq_false_iff_not, i32_lt (by omega) (by omega), i32_lt (by omega) (by omega)]
    omega
  by_cases q : x < n ∧ y < n
  · have k1 := (cel x hx5).2 q.1
    have k2 := (cel y hy5).2 q.2
    by_cases e1 : x = y
    · refine Or.inr (Or.inl ⟨q.1, q.2, e1, Cal.no (fun e I J A B w => wx_record_2 e I J A B _ _ _ _ ?_)⟩)
      subst e1
      exact cC_record_2 e I J A B w.2.2.2.2.2.2 k1
    · have ne : i32 x ≠ i32 y := fun z => e1 ((i32_eq (by omega) (by omega)).1 z)
      by_cases hw : wnr K R C lg m sw lo = iN ∨ rc = true
      · exact Or.inr (Or.inr (Or.inl ⟨q.1, q.2, e1, hw, Cal.no (fun e I J A B w => wx_record_3 e I J A B _ _ _ _ (cC_record_3 e I J A B w.1 w.2.1 hl w.2.2.2.2.2.2 w.2.2.1 k1 k2 ne hw))⟩))
      · refine Or.inr (Or.inr (Or.inr ⟨q.1, q.2, e1, fun z => hw (Or.inl z), bool_f (fun z => hw (Or.inr z)), fun w l hwl e I J A B cc => ?_⟩))
        obtain ⟨e', I', J', A', B', r1, r2, r3, r4⟩ := cx_record hl hb.2.2.2.2.1 hb.2.2.2.2.2.2.2.2.2.2.2.1 q.1 q.2 e1 (fun z => hw (Or.inl z)) hwl e I J A B cc
        exact ⟨e', I', J', A', B', wl_record e I J A B _ _ _ _ r1, r2, r3, r4⟩
  · refine Or.inl ⟨q, Cal.no (fun e I J A B w => wx_record_1 e I J A B _ _ _ _ (cC_record_1 e I J A B w.2.2.2.2.2.2 (bool_f (fun z => ?_))))⟩
    rw [Bool.and_eq_true] at z
    exact q ⟨(cel x hx5).1 z.1, (cel y hy5).1 z.2⟩
/-- the sums over all people -/
theorem ppl_sum (e : Nat) (I : Nat → Nat → Int32) (J : Nat → Nat → Int64) (A : Nat → Nat → Int32) (B : Nat → Nat → Int64) (h1 : CSd K R C lg m sw ea tk se pe us lo rc t tp pn ln tx n ra pl wo ls I J A B) (hD : DRd K R C lg m sw ea tk se pe us lo rc t tp pn ln tx n ra pl wo ls A) (hP : PlI n pl) (x3 x4 x5 x6 x7 x8 : Int32) : ∀ d k, k + d = n → mm_run (mm_pr tb_L_people) (425, [some (.ref 0), some (.ref 39), some (.ref 78), some (.int x3), some (.int x4), some (.int x5), some (.int x6), some (.int x7), some (.int x8), some (.int (si (sumR ra k))), some (.int (i32 (orP pl k))), some (.int (i32 k))], [], (79, e, mm_R0, I, J, A, B)) = mm_aft (mm_pr tb_L_people) 470 [some (.ref 0), some (.ref 39), some (.ref 78), some (.int x3), some (.int x4), some (.int x5), some (.int x6), some (.int x7), some (.int x8), some (.int (si (sumR ra n))), some (.int (i32 (orP pl n))), some (.int (i32 n))] [] (f_X10_told [.ref 0, .int (4 : Int32)] (79, e, mm_R0, I, J, A, B)) := by
  have hn : n ≤ 10 := h1.2.2.2.2.2.2.2.1
  have a2 : A 78 ((2 : Int32)).toInt.toNat = i32 n := hD.2.2.1
  intro d
  induction d with
  | zero =>
    intro k hk
    have e1 : k = n := by omega
    subst e1
    rw [sg_L_people_425, a2, if_neg (by rw [i32_lt (by omega) (by omega)]; omega)]
  | succ d ih =>
    intro k hk
    have p0 := qa_ofP e I J A B h1 (p := k) (v := 0) (by omega) (by decide)
    have p1 := qa_ofP e I J A B h1 (p := k) (v := 1) (by omega) (by decide)
    have s0 : shV ra pl wo ls k 0 = si (ra k) := rfl
    have s1 : shV ra pl wo ls k 1 = i32 (pl k) := rfl
    have pk := hP.1 k (by omega)
    rw [s0] at p0
    rw [s1] at p1
    rw [sg_L_people_425, a2, if_pos (by rw [i32_lt (by omega) (by omega)]; omega), show (0 : Int32) = i32 0 from rfl, p0, mm_aft_v, sg_L_people_442, show (1 : Int32) = i32 1 from rfl, p1, mm_aft_v, sg_L_people_455, si_add, show (31 : Int32) = i32 31 from rfl, i32_shl (by omega), i32_or, show i32 k + (1 : Int32) = i32 (k + 1) from i32_add k 1]
    exact ih (k + 1) (by omega)
theorem ppl_record (e : Nat) (I : Nat → Nat → Int32) (J : Nat → Nat → Int64) (A : Nat → Nat → Int32) (B : Nat → Nat → Int64) (h : RWd K R C lg m sw ea tk se pe us lo rc t tp pn ln tx n ra pl wo ls c I J A B) (hc1 : c + 1 ≤ 10000) (x3 x4 x5 : Int32) {x y : Nat} (hx : x < 5) (hy : y < 5) : ∃ e' I' J' A' B', mm_aft (mm_pr tb_L_people) 385 [some (.ref 0), some (.ref 39), some (.ref 78), some (.int x3), some (.int x4), some (.int x5), some (.int (i32 x)), some (.int (i32 y)), none, none, none, none] [] (f_L_both [.ref 0, .ref 39, .int (20 : Int32), .int (i32 x), .int (i32 y), .int (0 : Int32), .int (0 : Int32)] (79, e, mm_R0, I, J, A, B)) = some (.inl (some (.int 1)), (79, e', mm_R0, I', J', A', B')) ∧ RX (c + 1) I' J' A' B' ∧ e' ≤ e + 4 := by
  obtain ⟨h1, h2, hD, hb⟩ := h
  have hn : n ≤ 10 := h1.2.2.2.2.2.2.2.1
  have w := hb.1
  have hl := hb.2.1.1
  have tail : ∀ (e : Nat) (I : Nat → Nat → Int32) (J : Nat → Nat → Int64) (A : Nat → Nat → Int32) (B : Nat → Nat → Int64) (x8 : Int32) (ra : Nat → Int) (pl wo ls : Nat → Nat) (rc : Bool), CSd K R C lg m sw ea tk se pe us lo rc t tp pn ln tx n ra pl wo ls I J A B → DRd K R C lg m sw ea tk se pe us lo rc t tp pn ln tx n ra pl wo ls A → PlI n pl → RaI n ra → mm_run (mm_pr tb_L_people) (425, [some (.ref 0), some (.ref 39), some (.ref 78), some (.int x3), some (.int x4), some (.int x5), some (.int (i32 x)), some (.int (i32 y)), some (.int x8), some (.int (0 : Int32)), some (.int (0 : Int32)), some (.int (0 : Int32))], [], (79, e, mm_R0, I, J, A, B)) = (if x8 = (-2000000002 : Int32) then (if i32 x = i32 y then some (.inl (some (.int 1)), (79, e, mm_R0, I, J, A, B)) else some (.inl (some (.int 0)), (79, e, mm_R0, I, J, A, B))) else (if x8 = (-2000000003 : Int32) then some (.inl (some (.int 1)), (79, e, mm_R0, I, J, A, B)) else mm_aft (mm_pr tb_L_people) 535 [some (.ref 0), some (.ref 39), some (.ref 78), some (.int x3), some (.int x4), some (.int x5), some (.int (i32 x)), some (.int (i32 y)), some (.int x8), some (.int (si (sumR ra n))), some (.int (i32 (orP pl n))), some (.int (if wnr K R C lg m sw lo = i32 0 then i32 x else i32 y))] [] (f_X10_told [.ref 0, .int (4 : Int32)] (79, e, mm_R0, I, J, A, B)))) := by
    intro e I J A B x8 ra pl wo ls rc c1 d1 hP hR
    have a2 : A 78 ((2 : Int32)).toInt.toNat = i32 n := d1.2.2.1
    have t4 := qa_told e I J A B c1 w hl (v := 4) (by decide)
    rw [td_4] at t4
    have S := ppl_sum e I J A B c1 d1 hP x3 x4 x5 (i32 x) (i32 y) x8 n 0 (by omega)
    have z0 : si (sumR ra 0) = (0 : Int32) := rfl
    have z1 : i32 (orP pl 0) = (0 : Int32) := rfl
    rw [z0, z1, show i32 0 = (0 : Int32) from rfl] at S
    have two : 1 ≤ 2 ^ n := Nat.one_le_two_pow
    have sm : si (sumR ra n) = (1000 : Int32) * i32 n := by
      rw [hR, show (1000 : Int32) = si 1000 from rfl, si_i32, si_mul]
    have om : i32 (orP pl n) = (1 : Int32) <<< (i32 n &&& 31) - (1 : Int32) := by
      rw [orP_all hP, show (1 : Int32) = i32 1 from rfl, show (31 : Int32) = i32 31 from rfl, i32_shl (by omega), i32_sub two]
    have ok : ∀ x11 : Int32, mm_run (mm_pr tb_L_people) (480, [some (.ref 0), some (.ref 39), some (.ref 78), some (.int x3), some (.int x4), some (.int x5), some (.int (i32 x)), some (.int (i32 y)), some (.int x8), some (.int (si (sumR ra n))), some (.int (i32 (orP pl n))), some (.int (i32 n))], [.int x11], (79, e, mm_R0, I, J, A, B)) = (if x8 = (-2000000002 : Int32) then (if i32 x = i32 y then some (.inl (some (.int 1)), (79, e, mm_R0, I, J, A, B)) else some (.inl (some (.int 0)), (79, e, mm_R0, I, J, A, B))) else (if x8 = (-2000000003 : Int32) then some (.inl (some (.int 1)), (79, e, mm_R0, I, J, A, B)) else mm_aft (mm_pr tb_L_people) 535 [some (.ref 0), some (.ref 39), some (.ref 78), some (.int x3), some (.int x4), some (.int x5), some (.int (i32 x)), some (.int (i32 y)), some (.int x8), some (.int (si (sumR ra n))), some (.int (i32 (orP pl n))), some (.int x11)] [] (f_X10_told [.ref 0, .int (4 : Int32)] (79, e, mm_R0, I, J, A, B)))) := by
      intro x11
      rw [sg_L_people_480, a2, if_pos sm, if_pos om, sg_L_people_615, sg_L_people_620, if_pos (Or.inr rfl), sg_L_people_619, sg_L_people_620, if_pos (Or.inl rfl)]
    refine Eq.trans S ?_
    refine Eq.trans (congrArg (mm_aft (mm_pr tb_L_people) 470 _ []) t4) ?_
    rw [mm_aft_v, sg_L_people_470]
    by_cases q : wnr K R C lg m sw lo = i32 0
    · rw [if_pos (show wnr K R C lg m sw lo = (0 : Int32) from q), if_pos q]
      exact ok _
    · rw [if_neg (show ¬ wnr K R C lg m sw lo = (0 : Int32) from q), if_neg q]
      exact ok _
  rcases bo_record hb hx hy hn 0 0 with ⟨k1, k2⟩ | ⟨k1, k3, k4, k2⟩ | ⟨k1, k3, k4, k5, k2⟩ | ⟨k1, k3, k4, k5, k6, k2⟩
  · obtain ⟨e', I', J', A', B', q1, q2, q3, q4, q5⟩ := both_of k2 (CSd.lowP _ _ _ _ _ _ _ _ _ _ _ _ _ _ _ _ _ _ _ _ _ _ _) (CSd.lowP _ _ _ _ _ _ _ _ _ _ _ _ _ _ _ _ _ _ _ _ _ _ _) e I J A B h1 h2
    refine ⟨e', I', J', A', B', ?_, RX.up _ _ _ _ (RWd.rx _ _ _ _ ⟨q2, q3, hD.co q4, hb⟩) hc1, by omega⟩
    have a2 : A' 78 ((2 : Int32)).toInt.toNat = i32 n := by
      show A' 78 2 = _
      rw [q4]; exact hD.2.2.1
    rw [q1, mm_aft_v, sg_L_people_385, if_pos rfl, a2]
    have fin : mm_run (mm_pr tb_L_people) (410, [some (.ref 0), some (.ref 39), some (.ref 78), some (.int x3), some (.int x4), some (.int x5), some (.int (i32 x)), some (.int (i32 y)), some (.int (-2000000001 : Int32)), none, none, none], [], (79, e', mm_R0, I', J', A', B')) = some (.inl (some (.int 1)), (79, e', mm_R0, I', J', A', B')) := by
      rw [sg_L_people_410, sg_L_people_415, if_pos (Or.inr rfl)]
    by_cases z1 : i32 x < i32 n
    · rw [if_pos z1, if_neg (show ¬ i32 y < i32 n from fun z2 => k1 ⟨(i32_lt (by omega) (by omega)).1 z1, (i32_lt (by omega) (by omega)).1 z2⟩)]
      exact fin
    · rw [if_neg z1]
      exact fin
  · obtain ⟨e', I', J', A', B', q1, q2, q3, q4, q5⟩ := both_of k2 (CSd.lowP _ _ _ _ _ _ _ _ _ _ _ _ _ _ _ _ _ _ _ _ _ _ _) (CSd.lowP _ _ _ _ _ _ _ _ _ _ _ _ _ _ _ _ _ _ _ _ _ _ _) e I J A B h1 h2
    refine ⟨e', I', J', A', B', ?_, RX.up _ _ _ _ (RWd.rx _ _ _ _ ⟨q2, q3, hD.co q4, hb⟩) hc1, by omega⟩
    rw [q1, mm_aft_v, sg_L_people_385, if_neg (show ¬ (-2000000002 : Int32) = (-2000000001 : Int32) by decide), tail e' I' J' A' B' _ ra pl wo ls rc q2 (hD.co q4) hb.2.2.2.2.2.2.2.2.2.1 hb.2.2.2.2.2.2.2.2.1, if_pos rfl, if_pos (by rw [k4])]
  · obtain ⟨e', I', J', A', B', q1, q2, q3, q4, q5⟩ := both_of k2 (CSd.lowP _ _ _ _ _ _ _ _ _ _ _ _ _ _ _ _ _ _ _ _ _ _ _) (CSd.lowP _ _ _ _ _ _ _ _ _ _ _ _ _ _ _ _ _ _ _ _ _ _ _) e I J A B h1 h2
    refine ⟨e', I', J', A', B', ?_, RX.up _ _ _ _ (RWd.rx _ _ _ _ ⟨q2, q3, hD.co q4, hb⟩) hc1, by omega⟩
    rw [q1, mm_aft_v, sg_L_people_385, if_neg (show ¬ (-2000000003 : Int32) = (-2000000001 : Int32) by decide), tail e' I' J' A' B' _ ra pl wo ls rc q2 (hD.co q4) hb.2.2.2.2.2.2.2.2.2.1 hb.2.2.2.2.2.2.2.2.1, if_neg (show ¬ (-2000000003 : Int32) = (-2000000002 : Int32) by decide), if_pos rfl]
  · subst k6
    have hwl : ∃ w l, ((wnr K R C lg m sw lo = i32 0 ∧ w = x ∧ l = y) ∨ (¬ wnr K R C lg m sw lo = i32 0 ∧ w = y ∧ l = x)) := by
      by_cases q : wnr K R C lg m sw lo = i32 0
      · exact ⟨x, y, Or.inl ⟨q, rfl, rfl⟩⟩
      · exact ⟨y, x, Or.inr ⟨q, rfl, rfl⟩⟩
    obtain ⟨wi, li, hwl⟩ := hwl
    have k2' := k2 wi li hwl
    have hwn : wi < n ∧ li < n ∧ ¬ wi = li ∧ wi + li = x + y := by
      rcases hwl with ⟨_, a, b⟩ | ⟨_, a, b⟩ <;> subst a <;> subst b
      · exact ⟨k1, k3, k4, rfl⟩
      · exact ⟨k3, k1, fun z => k4 z.symm, Nat.add_comm _ _⟩
    have x11 : (if wnr K R C lg m sw lo = i32 0 then i32 x else i32 y) = i32 wi := by
      rcases hwl with ⟨q, a, b⟩ | ⟨q, a, b⟩
      · rw [if_pos q, a]
      · rw [if_neg q, a]
    obtain ⟨e', I', J', A', B', q1, q2, q3, q4, q5⟩ := both_of k2' (CSd.lowP _ _ _ _ _ _ _ _ _ _ _ _ _ _ _ _ _ _ _ _ _ _ _) (CSd.lowP _ _ _ _ _ _ _ _ _ _ _ _ _ _ _ _ _ _ _ _ _ _ _) e I J A B h1 h2
    have hD' : DRd K R C lg m sw ea tk se pe us lo true t tp pn ln tx n (raV ra wi li) (plcV pl wi li) (upN wo wi (wo wi + 1)) (upN ls li (ls li + 1)) A' := hD.co q4
    obtain ⟨b1, b2, b3, b4, b5, b6, b7, b8, b9, b10, b11, b12, b13⟩ := hb
    have hR := b9.rec hwn.1 hwn.2.1 hwn.2.2.1
    have hP := b10.rec hwn.1 hwn.2.1
    have wob : ∀ p, upN wo wi (wo wi + 1) p ≤ c + 1 := fun p => by
      unfold upN
      by_cases q : p = wi
      · rw [if_pos q]; have := b13 wi; omega
      · rw [if_neg q]; exact Nat.le_succ_of_le (b13 p)
    have hb' : BXd K R C lg m sw ea tk se pe us lo true t tp pn ln tx n (raV ra wi li) (plcV pl wi li) (upN wo wi (wo wi + 1)) (upN ls li (ls li + 1)) (c + 1) := ⟨b1, b2, b3, b4, b5.rec hwn.1 hwn.2.1, b6, b7, fun _ => k5, hR, hP, b11, hc1, wob⟩
    have rb := (b5.rec hwn.1 hwn.2.1).1 wi hwn.1
    have v0 : shV (raV ra wi li) (plcV pl wi li) (upN wo wi (wo wi + 1)) (upN ls li (ls li + 1)) wi 0 = si (raV ra wi li wi) := rfl
    have v1 : ∀ p, shV (raV ra wi li) (plcV pl wi li) (upN wo wi (wo wi + 1)) (upN ls li (ls li + 1)) p 1 = i32 (plcV pl wi li p) := fun _ => rfl
    have v2 : shV (raV ra wi li) (plcV pl wi li) (upN wo wi (wo wi + 1)) (upN ls li (ls li + 1)) wi 2 = i32 (wo wi + 1) := by
      show i32 (upN wo wi (wo wi + 1) wi) = _
      unfold upN
      rw [if_pos rfl]
    have t4 := qa_told e' I' J' A' B' q2 w hl (v := 4) (by decide)
    rw [td_4] at t4
    have p0 := qa_ofP e' I' J' A' B' q2 (p := wi) (v := 0) hwn.1 (by decide)
    have p2 := qa_ofP e' I' J' A' B' q2 (p := wi) (v := 2) hwn.1 (by decide)
    have p1 := qa_ofP e' I' J' A' B' q2 (p := wi) (v := 1) hwn.1 (by decide)
    have pl1 := qa_ofP e' I' J' A' B' q2 (p := li) (v := 1) hwn.2.1 (by decide)
    rw [v0] at p0
    rw [v2] at p2
    rw [v1] at p1 pl1
    have ne : ∀ z, z < 5 → z < n → cellP n (i32 z) = true := fun z h5 hz => by
      unfold cellP
      rw [Bool.and_eq_true, decide_eq_true_eq, Bool.not_eq_true', decide_eq_false_iff_not, i32_lt (by omega) (by omega), i32_lt (by omega) (by omega)]
      omega
    have c1 := wx_record_3 e' I' J' A' B' (i32 x) (i32 y) 0 0 (cC_record_3 e' I' J' A' B' q2.1 q2.2.1 hl q2.2.2.2.2.2.2 q2.2.2.1 (ne x hx k1) (ne y hy k3) (fun z => k4 ((i32_eq (by omega) (by omega)).1 z)) (Or.inr rfl))
    have c2 := wx_undo_3 (e' + 1) I' J' A' B' 0 0 0 0 (cC_undo_no (e' + 1) I' J' A' B' q2.1 q2.2.1 hl q2.2.2.1 (Or.inr (Or.inr rfl)))
    have nb : ∀ k : Int32, k.toInt < -1000000 → ¬ si (raV ra wi li wi) = k := fun k hk z => by
      have := si_rng (x := raV ra wi li wi) (by omega) (by omega)
      rw [z] at this
      omega
    have ah := plc_ahead b10 hwn.1 hwn.2.1 hwn.2.2.1
    have lw := hP.1 wi hwn.1
    have ll := hP.1 li hwn.2.1
    have wo1 := b13 wi
    refine ⟨e' + 1 + 1, I', J', A', B', ?_, RWd.rx _ _ _ _ ⟨q2, q3, hD', hb'⟩, by omega⟩
    rw [q1, mm_aft_v, sg_L_people_385, if_neg (nb _ (by decide)), tail e' I' J' A' B' _ (raV ra wi li) (plcV pl wi li) (upN wo wi (wo wi + 1)) (upN ls li (ls li + 1)) true q2 hD' hP hR, if_neg (nb _ (by decide)), if_neg (nb _ (by decide)), x11, show (4 : Int32) = i32 4 from rfl, t4, mm_aft_v, sg_L_people_535, if_neg (show ¬ wnr K R C lg m sw lo = (-1 : Int32) from k5), show (0 : Int32) = i32 0 from rfl, p0, mm_aft_v, sg_L_people_548, if_pos rfl, show (2 : Int32) = i32 2 from rfl, p2, mm_aft_v, sg_L_people_558, if_pos (show (0 : Int32) < i32 (wo wi + 1) by rw [show (0 : Int32) = i32 0 from rfl, i32_lt (by decide) (by omega)]; omega), show (1 : Int32) = i32 1 from rfl, p1, mm_aft_v, sg_L_people_568, i32_add, i32_sub (show wi ≤ x + y by omega), show x + y - wi = li by omega, show (1 : Int32) = i32 1 from rfl, pl1, mm_aft_v, sg_L_people_581, if_pos (show i32 (plcV pl wi li wi) < i32 (plcV pl wi li li) by rw [i32_lt (by omega) (by omega)]; exact ah), c1, mm_aft_v, sg_L_people_596, if_pos rfl, c2, mm_aft_v, sg_L_people_610, if_pos rfl, sg_L_people_615, sg_L_people_620, if_pos (Or.inr rfl)]
    rfl
theorem lw_people (e : Nat) (I : Nat → Nat → Int32) (J : Nat → Nat → Int64) (A : Nat → Nat → Int32) (B : Nat → Nat → Int64) (h : RWd K R C lg m sw ea tk se pe us lo rc t tp pn ln tx n ra pl wo ls c I J A B) (hc1 : c + 1 ≤ 10000) (x3 x4 : Int32) : LStp f_L_people [.ref 0, .ref 39, .ref 78, .int x3, .int x4] c (c + 1) 4 e I J A B := by
  obtain ⟨r, r1, r2⟩ := lw_some (79, e, mm_R0, I, J, A, B) x3 (k := 8) (by decide) (by decide)
  have hb := h.2.2.2
  have hD := h.2.2.1
  have w := hb.1
  have hl := hb.2.1.1
  have i5 : 0 ≤ ((5 : Int32)).toInt ∧ ((5 : Int32)).toInt < 6 := by decide
  have n5 : ((5 : Int32)).toInt.toNat = 5 := rfl
  unfold LStp
  rw [en_L_people, sg_L_people_0, show (8 : Int32) = i32 8 from rfl, r2, mm_aft_v, sg_L_people_6]
  by_cases z2 : r < 2
  · rw [if_pos (show i32 r < (2 : Int32) by rw [show (2 : Int32) = i32 2 from rfl, i32_lt (by omega) (by decide)]; omega)]
    obtain ⟨e', I', J', A', B', q1, q2, q3⟩ := ppl_person e I J A B h hc1 x3 x4 (i32 r)
    exact ⟨e', I', J', A', B', q1, q2, by omega⟩
  · rw [if_neg (show ¬ i32 r < (2 : Int32) by rw [show (2 : Int32) = i32 2 from rfl, i32_lt (by omega) (by decide)]; omega)]
    by_cases z4 : r < 4
    · obtain ⟨a, a1, a2⟩ := lw_some (79, e, mm_R0, I, J, A, B) x4 (k := 40) (by decide) (by decide)
      obtain ⟨b, b1, b2⟩ := lw_some (79, e, mm_R0, I, J, A, B) (x4 >>> ((6 : Int32) &&& 31)) (k := 3) (by decide) (by decide)
      obtain ⟨d, d1, d2⟩ := lw_some (79, e, mm_R0, I, J, A, B) (x4 >>> ((3 : Int32) &&& 31)) (k := 20) (by decide) (by decide)
      rw [if_pos (show i32 r < (4 : Int32) by rw [show (4 : Int32) = i32 4 from rfl, i32_lt (by omega) (by decide)]; omega), show (40 : Int32) = i32 40 from rfl, a2, mm_aft_v, sg_L_people_124, show (3 : Int32) = i32 3 from rfl, b2, mm_aft_v, sg_L_people_134, show (20 : Int32) = i32 20 from rfl, d2, mm_aft_v, sg_L_people_145, show (1 : Int32) + i32 b = i32 (1 + b) from i32_add 1 b, show (1 : Int32) + i32 d = i32 (1 + d) from i32_add 1 d]
      rcases bo_clocks hb (s := a) (p := 1 + b) (d := 1 + d) (by omega) (by omega) (by omega) (by omega) (by omega) 0 with ⟨k1, k3, k2⟩ | ⟨k1, k2⟩
      · obtain ⟨e', I', J', A', B', q1, q2, q3, q4, q5⟩ := both_of k2 (CSd.lowP _ _ _ _ _ _ _ _ _ _ _ _ _ _ _ _ _ _ _ _ _ _ _) (CSd.lowP _ _ _ _ _ _ _ _ _ _ _ _ _ _ _ _ _ _ _ _ _ _ _) e I J A B h.1 h.2.1
        have a5 : A' 78 ((5 : Int32)).toInt.toNat = 0 := by
          show A' 78 5 = _
          rw [q4, hD.2.2.2.2.2, k1]; rfl
        have t0 := qa_told e' I' J' A' B' q2 w (show 0 ≤ 2 by decide) (v := 0) (by decide)
        rw [td_0, k3] at t0
        have up : ∀ i, ¬ i = 78 → mm_up A' 78 5 (1 : Int32) i = A' i := fun i hi => mm_up_row _ _ _ _ _ hi
        have g : ∀ p, ¬ p = 5 → mm_up A' 78 5 (1 : Int32) 78 p = A 78 p := fun p x1 => by rw [mm_up_ne2 _ _ _ _ _ _ x1, q4]
        have D2 : DRd K R C lg m sw (1 + d) true (fun _ => a) (fun _ => 1 + b) (fun _ => 0) 0 rc t tp pn ln tx n ra pl wo ls (mm_up A' 78 5 (1 : Int32)) := ⟨by rw [g 0 (by decide)]; exact hD.1, by rw [g 1 (by decide)]; exact hD.2.1, by rw [g 2 (by decide)]; exact hD.2.2.1, by rw [g 3 (by decide)]; exact hD.2.2.2.1, by rw [g 4 (by decide)]; exact hD.2.2.2.2.1, mm_up_eq _ _ _ _⟩
        obtain ⟨y1, y2, y3, y4, y5, y6, y7, y8, y9⟩ := hb
        have l0 := y7 k1
        have hb' : BXd K R C lg m sw (1 + d) true (fun _ => a) (fun _ => 1 + b) (fun _ => 0) 0 rc t tp pn ln tx n ra pl wo ls c := ⟨y1, ⟨by decide, fun _ => ⟨by omega, by omega⟩, fun p _ => ⟨show a ≤ 3600 by omega, show 1 + b ≤ 9 by omega, Nat.zero_le _, fun _ => Nat.zero_le _, fun z => absurd z (Nat.lt_irrefl _)⟩⟩, y3, y4, y5, y6, fun _ => rfl, fun z => by have := y8 z; rw [l0] at this; exact this, y9⟩
        refine ⟨e', I', J', _, B', ?_, RX.up _ _ _ _ (RWd.rx _ _ _ _ ⟨q2.dr up, q3.dr2 up, D2, hb'⟩) hc1, by omega⟩
        rw [q1, mm_aft_v, sg_L_people_150, a5, if_pos rfl, show (0 : Int32) = i32 0 from rfl, t0, mm_aft_v, sg_L_people_163, if_pos (show i32 0 = 0 from rfl), sg_L_people_171, if_pos (show i32 0 = 0 from rfl), sg_L_people_187, if_pos i5, n5, if_neg (show ¬ (1 : Int32) = 0 by decide), sg_L_people_201, if_pos (show i32 0 = (0 : Int32) from rfl), sg_L_people_209, if_pos (Or.inr rfl)]
      · obtain ⟨e', I', J', A', B', q1, q2, q3, q4, q5⟩ := both_of k2 (CSd.lowP _ _ _ _ _ _ _ _ _ _ _ _ _ _ _ _ _ _ _ _ _ _ _) (CSd.lowP _ _ _ _ _ _ _ _ _ _ _ _ _ _ _ _ _ _ _ _ _ _ _) e I J A B h.1 h.2.1
        refine ⟨e', I', J', A', B', ?_, RX.up _ _ _ _ (RWd.rx _ _ _ _ ⟨q2, q3, hD.co q4, hb⟩) hc1, by omega⟩
        have a5 : A' 78 ((5 : Int32)).toInt.toNat = bi tk := by
          show A' 78 5 = _
          rw [q4]; exact hD.2.2.2.2.2
        have a6 : A' 78 5 = bi tk := a5
        have t0 := qa_told e' I' J' A' B' q2 w hl (v := 0) (by decide)
        rw [td_0] at t0
        have ml := m_le w
        have bl := bN_le w.1
        have fin : mm_run (mm_pr tb_L_people) (170, [some (.ref 0), some (.ref 39), some (.ref 78), some (.int x3), some (.int x4), some (.int (i32 r)), some (.int (-2000000003 : Int32)), none, none, none, none, none], [], (79, e', mm_R0, I', J', A', B')) = some (.inl (some (.int 1)), (79, e', mm_R0, I', J', A', B')) := by
          rw [sg_L_people_170, sg_L_people_171, if_neg (show ¬ (-2000000003 : Int32) = 0 by decide), sg_L_people_187, if_pos i5, n5, mm_up_same, if_pos rfl, sg_L_people_201, if_pos rfl, sg_L_people_209, if_pos (Or.inr rfl)]
        rw [q1, mm_aft_v, sg_L_people_150, a5]
        by_cases z : bi tk = 0
        · have tf : tk = false := by
            cases y : tk with
            | false => rfl
            | true => rw [y] at z; exact absurd z (by decide)
          have m0 : ¬ m = 0 := by
            rcases k1 with y | y
            · rw [tf] at y; cases y
            · exact y
          rw [if_pos z, show (0 : Int32) = i32 0 from rfl, t0, mm_aft_v, sg_L_people_163, if_neg (show ¬ i32 m = 0 from fun y => m0 ((i32_eq (b := 0) (by omega) (by decide)).1 y))]
          exact fin
        · rw [if_neg z]
          exact fin
    · rw [if_neg (show ¬ i32 r < (4 : Int32) by rw [show (4 : Int32) = i32 4 from rfl, i32_lt (by omega) (by decide)]; omega)]
      by_cases z6 : r < 6
      · rw [if_pos (show i32 r < (6 : Int32) by rw [show (6 : Int32) = i32 6 from rfl, i32_lt (by omega) (by decide)]; omega)]
        have pm : m % 2 < 2 := Nat.mod_lt _ (by decide)
        have t1 := qa_told e I J A B h.1 w hl (v := 1) (by decide)
        have t4 := qa_told e I J A B h.1 w hl (v := 4) (by decide)
        have k0 := qa_clock e I J A B h.1 (p := m % 2) (v := 0) pm (by decide)
        rw [td_1] at t1
        rw [td_4] at t4
        rw [if_pos rfl] at k0
        obtain ⟨a, a1, a2⟩ := lw_some (79, e, mm_R0, I, J, A, B) x4 (k := 30) (by decide) (by decide)
        rw [show (1 : Int32) = i32 1 from rfl, t1, mm_aft_v, sg_L_people_222, show (4 : Int32) = i32 4 from rfl, t4, mm_aft_v, sg_L_people_229, show (0 : Int32) = i32 0 from rfl, k0, mm_aft_v, sg_L_people_238, show (30 : Int32) = i32 30 from rfl, a2, mm_aft_v, sg_L_people_252, show (1 : Int32) + i32 a = i32 (1 + a) from i32_add 1 a]
        rcases bo_think hb (d := 1 + a) (by omega) (by omega) 0 0 0 with ⟨k1, k3, k2⟩ | ⟨k1, k2⟩
        · obtain ⟨e', I', J', A', B', q1, q2, q3, q4, q5⟩ := both_of k2 (CSd.lowP _ _ _ _ _ _ _ _ _ _ _ _ _ _ _ _ _ _ _ _ _ _ _) (CSd.lowP _ _ _ _ _ _ _ _ _ _ _ _ _ _ _ _ _ _ _ _ _ _ _) e I J A B h.1 h.2.1
          have a5 : A' 78 ((5 : Int32)).toInt.toNat = 1 := by
            show A' 78 5 = _
            rw [q4, hD.2.2.2.2.2, k1]; rfl
          obtain ⟨l0, jn⟩ := wnr_lo hl k3
          obtain ⟨y1, y2, y3, y4, y5, y6, y7, y8, y9⟩ := hb
          have T2 : TB ea tk (seV se (m % 2) (1 + a)) (peV ea se pe us (m % 2) (1 + a)) (usV ea se pe us (m % 2) (1 + a)) (usL ea se pe us (m % 2) (1 + a)) := by
            rw [l0, k1] at y2
            rw [k1]
            exact y2.spend pm (by omega) (by omega)
          have hb' : BXd K R C lg m sw ea tk (seV se (m % 2) (1 + a)) (peV ea se pe us (m % 2) (1 + a)) (usV ea se pe us (m % 2) (1 + a)) (usL ea se pe us (m % 2) (1 + a)) rc t tp pn ln tx n ra pl wo ls c := ⟨y1, T2, y3, y4, y5, y6, (fun z => by rw [k1] at z; cases z), fun z => absurd k3 (y8 z), y9⟩
          refine ⟨e', I', J', A', B', ?_, RX.up _ _ _ _ (RWd.rx _ _ _ _ ⟨q2, q3, hD.co q4, hb'⟩) hc1, by omega⟩
          have t4' := qa_told e' I' J' A' B' q2 w T2.1 (v := 4) (by decide)
          rw [td_4] at t4'
          have k0' := qa_clock e' I' J' A' B' q2 (p := m % 2) (v := 0) pm (by decide)
          have k1' := qa_clock e' I' J' A' B' q2 (p := m % 2) (v := 1) pm (by decide)
          rw [if_pos rfl] at k0'
          rw [if_neg (by decide), if_pos rfl] at k1'
          have sv : seV se (m % 2) (1 + a) (m % 2) = se (m % 2) - min (1 + a) (se (m % 2)) := by
            unfold seV upN
            rw [if_pos rfl]
          have sb := (y2.2.2 (m % 2) pm).1
          have fin : mm_run (mm_pr tb_L_people) (338, [some (.ref 0), some (.ref 39), some (.ref 78), some (.int x3), some (.int x4), some (.int (i32 r)), some (.int (i32 (m % 2))), some (.int (wnr K R C lg m sw lo)), some (.int (i32 (se (m % 2)))), some (.int (wnr K R C lg m sw (usL ea se pe us (m % 2) (1 + a)))), none, none], [], (79, e', mm_R0, I', J', A', B')) = some (.inl (some (.int 1)), (79, e', mm_R0, I', J', A', B')) := by
            rw [sg_L_people_338, show (4 : Int32) = i32 4 from rfl, t4', mm_aft_v, sg_L_people_343, if_pos rfl, sg_L_people_353, if_pos (Or.inr rfl)]
          have nn : ¬ wnr K R C lg m sw (usL ea se pe us (m % 2) (1 + a)) = (-2000000003 : Int32) := by
            rcases wnr_cases (K := K) (R := R) (C := C) (lg := lg) (m := m) (sw := sw) T2.1 with q | q | q <;> rw [q] <;> decide
          rw [q1, mm_aft_v, sg_L_people_259, if_neg nn, a5, if_pos rfl, if_pos (show wnr K R C lg m sw lo = (-1 : Int32) from k3), show (0 : Int32) = i32 0 from rfl, k0', mm_aft_v, sg_L_people_308, sv, if_neg (show ¬ i32 (se (m % 2)) < i32 (se (m % 2) - min (1 + a) (se (m % 2))) by rw [i32_lt (by omega) (by omega)]; omega)]
          by_cases q : usL ea se pe us (m % 2) (1 + a) = 0
          · have e1 : wnr K R C lg m sw (usL ea se pe us (m % 2) (1 + a)) = (-1 : Int32) := by
              rw [q]
              unfold wnr
              rw [if_pos rfl]
              exact jn
            rw [if_pos e1]
            exact fin
          · have u1 : usL ea se pe us (m % 2) (1 + a) = m % 2 + 1 ∧ peV ea se pe us (m % 2) (1 + a) (m % 2) = 0 := by
              have q' := q
              unfold usL at q' ⊢
              by_cases y : pe (m % 2) - min (pe (m % 2)) ((us (m % 2) + (1 + a) - min (1 + a) (se (m % 2))) / ea) = 0 ∧ 0 < us (m % 2) + (1 + a) - min (1 + a) (se (m % 2))
              · rw [if_pos y]
                refine ⟨rfl, ?_⟩
                unfold peV upN
                rw [if_pos rfl]
                exact y.1
              · rw [if_neg y] at q'
                exact absurd rfl q'
            have e1 : wnr K R C lg m sw (usL ea se pe us (m % 2) (1 + a)) = i32 (1 - m % 2) := by
              unfold wnr
              rw [if_neg q, u1.1]
              congr 1
              omega
            rw [if_neg (show ¬ wnr K R C lg m sw (usL ea se pe us (m % 2) (1 + a)) = (-1 : Int32) by
              rw [e1]
              exact fun z => (iN_ne (by omega)).1 z), if_pos (by rw [e1, show (1 : Int32) = i32 1 from rfl, i32_sub (by omega)]), show (1 : Int32) = i32 1 from rfl, k1', mm_aft_v, sg_L_people_335, u1.2, if_pos (show i32 0 = (0 : Int32) from rfl)]
            exact fin
        · obtain ⟨e', I', J', A', B', q1, q2, q3, q4, q5⟩ := both_of k2 (CSd.lowP _ _ _ _ _ _ _ _ _ _ _ _ _ _ _ _ _ _ _ _ _ _ _) (CSd.lowP _ _ _ _ _ _ _ _ _ _ _ _ _ _ _ _ _ _ _ _ _ _ _) e I J A B h.1 h.2.1
          refine ⟨e', I', J', A', B', ?_, RX.up _ _ _ _ (RWd.rx _ _ _ _ ⟨q2, q3, hD.co q4, hb⟩) hc1, by omega⟩
          have a5 : A' 78 ((5 : Int32)).toInt.toNat = bi tk := by
            show A' 78 5 = _
            rw [q4]; exact hD.2.2.2.2.2
          have fin : mm_run (mm_pr tb_L_people) (280, [some (.ref 0), some (.ref 39), some (.ref 78), some (.int x3), some (.int x4), some (.int (i32 r)), some (.int (i32 (m % 2))), some (.int (wnr K R C lg m sw lo)), some (.int (i32 (se (m % 2)))), some (.int (-2000000003 : Int32)), none, none], [], (79, e', mm_R0, I', J', A', B')) = some (.inl (some (.int 1)), (79, e', mm_R0, I', J', A', B')) := by
            rw [sg_L_people_280, sg_L_people_353, if_pos (Or.inr rfl)]
          rw [q1, mm_aft_v, sg_L_people_259, if_pos rfl, a5]
          by_cases z : bi tk = 0
          · rw [if_pos z]
            exact fin
          · rw [if_neg z]
            have nw : ¬ wnr K R C lg m sw lo = iN := by
              rcases k1 with y | y
              · rw [y] at z; exact absurd rfl z
              · exact y
            rw [if_neg (show ¬ wnr K R C lg m sw lo = (-1 : Int32) from nw)]
            exact fin
      · rw [if_neg (show ¬ i32 r < (6 : Int32) by rw [show (6 : Int32) = i32 6 from rfl, i32_lt (by omega) (by decide)]; omega)]
        obtain ⟨a, a1, a2⟩ := lw_some (79, e, mm_R0, I, J, A, B) x4 (k := 5) (by decide) (by decide)
        obtain ⟨b, b1, b2⟩ := lw_some (79, e, mm_R0, I, J, A, B) (x4 >>> ((4 : Int32) &&& 31)) (k := 5) (by decide) (by decide)
        have b2' : f_L_some [.int (x4 >>> ((4 : Int32) &&& 31)), .int (5 : Int32)] (79, e, mm_R0, I, J, A, B) = some (.inl (some (.int (i32 b))), (79, e, mm_R0, I, J, A, B)) := b2
        have a2' : f_L_some [.int x4, .int (5 : Int32)] (79, e, mm_R0, I, J, A, B) = some (.inl (some (.int (i32 a))), (79, e, mm_R0, I, J, A, B)) := a2
        rw [a2', mm_aft_v, sg_L_people_360, b2', mm_aft_v, sg_L_people_370]
        exact ppl_record e I J A B h hc1 x3 x4 (i32 r) a1 b1
end
