/-! arguments: cells, ends, players; calls of links, class -/
def cellP (N : Nat) (x : Int32) : Bool := !decide (x < i32 0) && decide (x < i32 N)
def endP (N S : Nat) (x : Int32) : Bool := cellP N x || (!decide (x < i32 100) && decide (x < i32 (100 + S)))
def plaP (x : Int32) : Bool := decide (x = i32 0 ∨ x = i32 1)
theorem cellP_i {N c : Nat} (hN : N ≤ 36) (hc : c < 2147483648) : cellP N (i32 c) = decide (c < N) := by
  unfold cellP
  rw [decide_eq_false (show ¬ i32 c < i32 0 by rw [i32_lt hc (by decide)]; omega)]
  rw [show decide (i32 c < i32 N) = decide (c < N) by rw [decide_eq_decide, i32_lt hc (by omega)]]
  rfl
theorem cellP_ex {N : Nat} {x : Int32} (hN : N ≤ 36) (h : cellP N x = true) : ∃ c, c < N ∧ x = i32 c := by
  rcases i32_cases x with q | ⟨c, c1, c2⟩
  · unfold cellP at h
    rw [decide_eq_true q] at h; cases h
  · subst c2
    rw [cellP_i hN c1, decide_eq_true_eq] at h
    exact ⟨c, h, rfl⟩
theorem endP_ex {K R C : Nat} {x : Int32} (hN : bN K R C ≤ 36) (h : endP (bN K R C) (bSd K) x = true) : ∃ c, okE K R C c ∧ x = i32 c ∧ c < 104 := by
  have hS := bSd_le (K := K)
  unfold endP at h
  rw [Bool.or_eq_true] at h
  rcases h with h | h
  · obtain ⟨c, h1, h2⟩ := cellP_ex hN h
    exact ⟨c, Or.inl h1, h2, by omega⟩
  · rw [Bool.and_eq_true, Bool.not_eq_true', decide_eq_false_iff_not, decide_eq_true_eq] at h
    rcases i32_cases x with q | ⟨c, c1, c2⟩
    · exfalso
      refine h.1 ?_
      rw [Int32.lt_iff_toInt_lt] at q ⊢
      rw [i32_toInt (by decide)] at q ⊢
      omega
    · subst c2
      rw [i32_lt c1 (by decide), i32_lt c1 (by omega)] at h
      exact ⟨c, Or.inr ⟨by omega, h.2⟩, rfl, by omega⟩
theorem plaP_ex {x : Int32} (h : plaP x = true) : ∃ p, p < 2 ∧ x = i32 p := by
  unfold plaP at h
  rw [decide_eq_true_eq] at h
  rcases h with q | q
  · exact ⟨0, by decide, q⟩
  · exact ⟨1, by decide, q⟩
theorem plaP_M (x : Int32) : (!decide (x < 0) && !decide (1 < x)) = plaP x := by
  unfold plaP
  rcases i32_cases x with q | ⟨c, c1, c2⟩
  · have hz : ¬ (x = i32 0 ∨ x = i32 1) := fun z => by
      rcases z with z | z
      · subst z; exact absurd q (by decide)
      · subst z; exact absurd q (by decide)
    rw [show decide (x < 0) = true from decide_eq_true q, decide_eq_false hz]
    rfl
  · subst c2
    rw [show decide (i32 c < 0) = false from decide_eq_false (by rw [show (0 : Int32) = i32 0 from rfl, i32_lt c1 (by decide)]; omega)]
    rw [Bool.not_false, Bool.true_and]
    rw [show decide (1 < i32 c) = decide (1 < c) by rw [decide_eq_decide, show (1 : Int32) = i32 1 from rfl, i32_lt (by decide) c1]]
    rw [show decide (i32 c = i32 0 ∨ i32 c = i32 1) = decide (c = 0 ∨ c = 1) by rw [decide_eq_decide, i32_eq c1 (by decide), i32_eq c1 (by decide)]]
    by_cases q : 1 < c
    · rw [decide_eq_true q, decide_eq_false (by omega)]; rfl
    · rw [decide_eq_false q, decide_eq_true (by omega)]; rfl
theorem cellP_M {N : Nat} (h1 : 1 ≤ N) (hN : N ≤ 36) (x : Int32) : (!decide (x < 0) && !decide (i32 N - 1 < x)) = cellP N x := by
  unfold cellP
  rw [show i32 N - 1 = i32 (N - 1) from i32_sub h1]
  rcases i32_cases x with q | ⟨c, c1, c2⟩
  · rw [show decide (x < 0) = true from decide_eq_true q, show decide (x < i32 0) = true from decide_eq_true q]; rfl
  · subst c2
    rw [show decide (i32 (N - 1) < i32 c) = !decide (i32 c < i32 N) by
      rw [show decide (i32 (N - 1) < i32 c) = decide (N - 1 < c) by rw [decide_eq_decide, i32_lt (by omega) c1], show decide (i32 c < i32 N) = decide (c < N) by rw [decide_eq_decide, i32_lt c1 (by omega)]]
      by_cases q : c < N
      · rw [decide_eq_true q, decide_eq_false (by omega)]; rfl
      · rw [decide_eq_false q, decide_eq_true (by omega)]; rfl]
    rw [Bool.not_not]
    rfl
/-- whether an end is one of a player's -/
def isE (s : Int64) (x : Int32) : Bool := !decide (x < i32 100) || mb s x.toInt.toNat
theorem isE_i {s : Int64} {c : Nat} (hc : c < 104) : isE s (i32 c) = (decide (100 ≤ c) || mb s c) := by
  unfold isE
  rw [i32_ix (by omega), show decide (i32 c < i32 100) = decide (c < 100) by rw [decide_eq_decide, i32_lt (by omega) (by decide)]]
  by_cases q : c < 100
  · rw [decide_eq_true q, decide_eq_false (by omega)]; rfl
  · rw [decide_eq_false q, decide_eq_true (by omega)]; rfl
/-- how a question of links is refused -/
def lkC (K R C : Nat) (lg : Nat → Nat) (m : Nat) (sw : Bool) (ex : Bool) (p one oth : Int32) : Nat := if (plaP p && endP (bN K R C) (bSd K) one && endP (bN K R C) (bSd K) oth && ex) = false then 1 else if one = oth ∨ isE (sN lg m sw p.toInt.toNat) one = false ∨ isE (sN lg m sw p.toInt.toNat) oth = false then 2 else if gn (emp (bN K R C) (sN lg m sw 0) (sN lg m sw 1)) ≤ 9 then 0 else 3
section
variable {K R C : Nat} {lg : Nat → Nat} {m : Nat} {sw : Bool} (e : Nat) (I : Nat → Nat → Int32) (J : Nat → Nat → Int64) (A : Nat → Nat → Int32) (B : Nat → Nat → Int64)
theorem sp_hasCell (h : CB K R C I J A B) (x : Int32) : f_X1_hasCell [.ref 1, .int x] (79, e, mm_R0, I, J, A, B) = some (.inl (some (.int (bi (cellP (bN K R C) x)))), (79, e, mm_R0, I, J, A, B)) := by
  have h1 := en_X1_hasCell 72 mm_R0 e I J A B x
  have h2 := sg_X1_hasCell_0 72 mm_R0 e I J A B x
  have h3 := sg_X1_hasCell_22 72 mm_R0 e I J A B x
  have h4 := sg_X1_hasCell_23 72 mm_R0 e I J A B x
  rw [mm_RB_0] at h1 h2 h3
  have h4' : ∀ y0 : Int32, mm_run (mm_pr tb_X1_hasCell) (23, [some (.ref 1), some (.int x)], [.int y0], (79, e, mm_R0, I, J, A, B)) = if y0 = 0 ∨ y0 = 1 then some (.inl (some (.int y0)), (79, e, mm_R0, I, J, A, B)) else none := by
    intro y0; have := h4 y0; rw [mm_RB_0] at this; exact this
  have h1' : f_X1_hasCell [.ref 1, .int x] (79, e, mm_R0, I, J, A, B) = mm_run (mm_pr tb_X1_hasCell) (0, [some (.ref 1), some (.int x)], [], (79, e, mm_R0, I, J, A, B)) := h1
  have h3' : mm_run (mm_pr tb_X1_hasCell) (22, [some (.ref 1), some (.int x)], [], (79, e, mm_R0, I, J, A, B)) = mm_run (mm_pr tb_X1_hasCell) (23, [some (.ref 1), some (.int x)], [.int (0 : Int32)], (79, e, mm_R0, I, J, A, B)) := h3
  rw [h1']
  refine Eq.trans h2 ?_
  show (if x < 0 then mm_run (mm_pr tb_X1_hasCell) (22, [some (.ref 1), some (.int x)], [], (79, e, mm_R0, I, J, A, B)) else if x < I 1 8 then (if x < (36 : Int32) then mm_run (mm_pr tb_X1_hasCell) (23, [some (.ref 1), some (.int x)], [.int (1 : Int32)], (79, e, mm_R0, I, J, A, B)) else mm_run (mm_pr tb_X1_hasCell) (22, [some (.ref 1), some (.int x)], [], (79, e, mm_R0, I, J, A, B))) else mm_run (mm_pr tb_X1_hasCell) (22, [some (.ref 1), some (.int x)], [], (79, e, mm_R0, I, J, A, B))) = _
  rw [h3', h4', h4', if_pos (Or.inl rfl), if_pos (Or.inr rfl), h.cells]
  unfold cellP
  by_cases q : x < 0
  · rw [if_pos q, show decide (x < i32 0) = true from decide_eq_true q]; rfl
  · rw [if_neg q, show decide (x < i32 0) = false from decide_eq_false q]
    by_cases q2 : x < i32 (bN K R C)
    · have hN := bN_le h.v
      have q3 : x < (36 : Int32) := by
        obtain ⟨c, c1, c2⟩ := cellP_ex hN (show cellP (bN K R C) x = true by unfold cellP; rw [show decide (x < i32 0) = false from decide_eq_false q, decide_eq_true q2]; rfl)
        rw [c2, show (36 : Int32) = i32 36 from rfl, i32_lt (by omega) (by omega)]; omega
      rw [if_pos q2, if_pos q3, decide_eq_true q2]; rfl
    · rw [if_neg q2, decide_eq_false q2]; rfl
theorem sp_hasEnd (h : CB K R C I J A B) (x : Int32) : f_X1_hasEnd [.ref 1, .int x] (79, e, mm_R0, I, J, A, B) = some (.inl (some (.int (bi (endP (bN K R C) (bSd K) x)))), (79, e, mm_R0, I, J, A, B)) := by
  have h1 : f_X1_hasEnd [.ref 1, .int x] (79, e, mm_R0, I, J, A, B) = mm_run (mm_pr tb_X1_hasEnd) (0, [some (.ref 1), some (.int x)], [], (79, e, mm_R0, I, J, A, B)) := by
    have := en_X1_hasEnd 72 mm_R0 e I J A B x
    rw [mm_RB_0] at this; exact this
  have h2 : mm_run (mm_pr tb_X1_hasEnd) (0, [some (.ref 1), some (.int x)], [], (79, e, mm_R0, I, J, A, B)) = mm_aft (mm_pr tb_X1_hasEnd) 5 [some (.ref 1), some (.int x)] [] (f_X1_hasCell [.ref 1, .int x] (79, e, mm_R0, I, J, A, B)) := by
    have := sg_X1_hasEnd_0 72 mm_R0 e I J A B x
    rw [mm_RB_0] at this; exact this
  have h5 : ∀ y0 : Int32, mm_run (mm_pr tb_X1_hasEnd) (30, [some (.ref 1), some (.int x)], [.int y0], (79, e, mm_R0, I, J, A, B)) = if y0 = 0 ∨ y0 = 1 then some (.inl (some (.int y0)), (79, e, mm_R0, I, J, A, B)) else none := by
    intro y0; have := sg_X1_hasEnd_30 72 mm_R0 e I J A B x y0; rw [mm_RB_0] at this; exact this
  have h3 : mm_run (mm_pr tb_X1_hasEnd) (25, [some (.ref 1), some (.int x)], [], (79, e, mm_R0, I, J, A, B)) = mm_run (mm_pr tb_X1_hasEnd) (30, [some (.ref 1), some (.int x)], [.int (1 : Int32)], (79, e, mm_R0, I, J, A, B)) := by
    have := sg_X1_hasEnd_25 72 mm_R0 e I J A B x
    rw [mm_RB_0] at this; exact this
  have h4 : mm_run (mm_pr tb_X1_hasEnd) (29, [some (.ref 1), some (.int x)], [], (79, e, mm_R0, I, J, A, B)) = mm_run (mm_pr tb_X1_hasEnd) (30, [some (.ref 1), some (.int x)], [.int (0 : Int32)], (79, e, mm_R0, I, J, A, B)) := by
    have := sg_X1_hasEnd_29 72 mm_R0 e I J A B x
    rw [mm_RB_0] at this; exact this
  have h6 : ∀ y0 : Int32, mm_run (mm_pr tb_X1_hasEnd) (5, [some (.ref 1), some (.int x)], [.int y0], (79, e, mm_R0, I, J, A, B)) = if y0 = 0 then (if x < (100 : Int32) then mm_run (mm_pr tb_X1_hasEnd) (29, [some (.ref 1), some (.int x)], [], (79, e, mm_R0, I, J, A, B)) else (if x < ((100 : Int32) + (I 1 9)) then mm_run (mm_pr tb_X1_hasEnd) (25, [some (.ref 1), some (.int x)], [], (79, e, mm_R0, I, J, A, B)) else mm_run (mm_pr tb_X1_hasEnd) (29, [some (.ref 1), some (.int x)], [], (79, e, mm_R0, I, J, A, B)))) else mm_run (mm_pr tb_X1_hasEnd) (25, [some (.ref 1), some (.int x)], [], (79, e, mm_R0, I, J, A, B)) := by
    intro y0; have := sg_X1_hasEnd_5 72 mm_R0 e I J A B x y0; rw [mm_RB_0] at this; exact this
  rw [h1, h2, sp_hasCell e I J A B h, mm_aft_v, h6, h3, h4, h5, h5, if_pos (Or.inl rfl), if_pos (Or.inr rfl), h.sides, show (100 : Int32) = i32 100 from rfl, i32_add]
  unfold endP
  cases cellP (bN K R C) x with
  | true => rfl
  | false =>
    rw [if_pos (show bi false = 0 from rfl), Bool.false_or]
    by_cases q : x < i32 100
    · rw [if_pos q, decide_eq_true q]; rfl
    · rw [if_neg q, decide_eq_false q]
      by_cases q2 : x < i32 (100 + bSd K)
      · rw [if_pos q2, decide_eq_true q2]; rfl
      · rw [if_neg q2, decide_eq_false q2]; rfl
theorem sp0_stones (h : CG K R C lg m sw I J A B) {p : Nat} (hp : p < 2) : f_X6_stones [.ref 7, .int (i32 p)] (79, e, mm_R0, I, J, A, B) = some (.inl (some (.long (sN lg m sw p))), (79, e, mm_R0, I, J, A, B)) := by
  have := sp_stones 70 mm_R0 e I J A B hp
  rw [mm_RP_0] at this
  have : f_X6_stones [.ref 7, .int (i32 p)] (79, e, mm_R0, I, J, A, B) = some (.inl (some (.long (J 7 (4 + p)))), (79, e, mm_R0, I, J, A, B)) := this
  rw [this]
  have t : p = 0 ∨ p = 1 := by omega
  rcases t with q | q
  · subst q; rw [show J 7 (4 + 0) = sN lg m sw 0 from h.2.2.1]
  · subst q; rw [show J 7 (4 + 1) = sN lg m sw 1 from h.2.2.2.1]
theorem sp_isEndOf (h : CG K R C lg m sw I J A B) {p c : Nat} (hp : p < 2) (hc : c < 104) (ok : okE K R C c) : f_X10_isEndOf [.ref 0, .int (i32 p), .int (i32 c)] (79, e, mm_R0, I, J, A, B) = some (.inl (some (.int (bi (isE (sN lg m sw p) (i32 c))))), (79, e, mm_R0, I, J, A, B)) := by
  have hN := bN_le h.1.v
  rw [isE_i hc, en_X10_isEndOf, sg_X10_isEndOf_0]
  by_cases q : c < 100
  · have c36 : c < 64 := by rcases ok with o | o <;> omega
    rw [if_pos (by rw [show (100 : Int32) = i32 100 from rfl, i32_lt (by omega) (by decide)]; exact q), sp0_stones e I J A B h hp, mm_aft_v, sg_X10_isEndOf_14, sp_has _ _ c36, mm_aft_v, sg_X10_isEndOf_18, decide_eq_false (by omega), Bool.false_or]
    cases mb (sN lg m sw p) c with
    | true => rw [if_neg (show ¬ bi true = 0 by decide), sg_X10_isEndOf_21, sg_X10_isEndOf_26, if_pos (Or.inr rfl)]; rfl
    | false => rw [if_pos (show bi false = 0 from rfl), sg_X10_isEndOf_26, if_pos (Or.inl rfl)]; rfl
  · rw [if_neg (by rw [show (100 : Int32) = i32 100 from rfl, i32_lt (by omega) (by decide)]; exact q), sg_X10_isEndOf_21, sg_X10_isEndOf_26, if_pos (Or.inr rfl), decide_eq_true (by omega)]
    rfl
theorem sp_isPlayerP (S : mm_S) (x : Int32) : f_X10_isPlayer [.int x] S = some (.inl (some (.int (bi (plaP x)))), S) := sp_isPlayer S x
theorem sp_needLink (h : CG K R C lg m sw I J A B) (p one oth : Int32) : f_X10_needLink [.ref 0, .int p, .int one, .int oth] (79, e, mm_R0, I, J, A, B) = if lkC K R C lg m sw true p one oth = 0 then some (.inl none, (79, e, mm_R0, I, J, A, B)) else some (.inr (lkC K R C lg m sw true p one oth), (79, e + 1, mm_R0, I, J, A, B)) := by
  have hN := bN_le h.1.v
  unfold lkC
  rw [en_X10_needLink, sg_X10_needLink_0, sp_isPlayerP, mm_aft_v, sg_X10_needLink_4]
  cases h1 : plaP p with
  | false =>
    rw [if_pos (show bi false = 0 from rfl), sg_X10_needLink_29]
    rfl
  | true =>
    rw [if_neg (show ¬ bi true = 0 by decide), sp_hasEnd e I J A B h.1, mm_aft_v, sg_X10_needLink_15]
    cases h2 : endP (bN K R C) (bSd K) one with
    | false =>
      rw [if_pos (show bi false = 0 from rfl), sg_X10_needLink_29]
      rfl
    | true =>
      rw [if_neg (show ¬ bi true = 0 by decide), sp_hasEnd e I J A B h.1, mm_aft_v, sg_X10_needLink_26]
      cases h3 : endP (bN K R C) (bSd K) oth with
      | false =>
        rw [if_pos (show bi false = 0 from rfl), sg_X10_needLink_29]
        rfl
      | true =>
        rw [if_neg (show ¬ bi true = 0 by decide), if_neg (show ¬ (true && true && true && true) = false by decide)]
        obtain ⟨pp, p1, p2⟩ := plaP_ex h1
        obtain ⟨c1, a1, a2, a3⟩ := endP_ex hN h2
        obtain ⟨c2, b1, b2, b3⟩ := endP_ex hN h3
        subst p2; subst a2; subst b2
        rw [i32_ix (by omega)]
        by_cases q : i32 c1 = i32 c2
        · rw [if_pos q, if_pos (Or.inl q), sg_X10_needLink_63]
          rfl
        · rw [if_neg q, sp_isEndOf e I J A B h p1 a3 a1, mm_aft_v, sg_X10_needLink_51]
          cases g1 : isE (sN lg m sw pp) (i32 c1) with
          | false =>
            rw [if_pos (show bi false = 0 from rfl), sg_X10_needLink_63, if_pos (Or.inr (Or.inl rfl))]
            rfl
          | true =>
            rw [if_neg (show ¬ bi true = 0 by decide), sp_isEndOf e I J A B h p1 b3 b1, mm_aft_v, sg_X10_needLink_60]
            cases g2 : isE (sN lg m sw pp) (i32 c2) with
            | false =>
              rw [if_pos (show bi false = 0 from rfl), sg_X10_needLink_63, if_pos (Or.inr (Or.inr rfl))]
              rfl
            | true =>
              rw [if_neg (show ¬ bi true = 0 by decide), if_neg (show ¬ (i32 c1 = i32 c2 ∨ true = false ∨ true = false) from fun z => z.elim q (fun y => y.elim (fun w => Bool.noConfusion w) (fun w => Bool.noConfusion w))), sp_needFewGaps e I J A B h]
              by_cases g : gn (emp (bN K R C) (sN lg m sw 0) (sN lg m sw 1)) ≤ 9
              · rw [if_pos g, if_pos g, mm_aft_n, sg_X10_needLink_78, if_pos rfl]
              · rw [if_neg g, if_neg g, mm_aft_x, if_neg (by decide)]
theorem lkC_0 {ex : Bool} {p one oth : Int32} (h : lkC K R C lg m sw ex p one oth = 0) (hN : bN K R C ≤ 36) : ex = true ∧ gn (emp (bN K R C) (sN lg m sw 0) (sN lg m sw 1)) ≤ 9 ∧ ∃ pp c1 c2, pp < 2 ∧ okE K R C c1 ∧ okE K R C c2 ∧ c1 < 104 ∧ c2 < 104 ∧ p = i32 pp ∧ one = i32 c1 ∧ oth = i32 c2 := by
  unfold lkC at h
  split at h
  · cases h
  · next h1 =>
    split at h
    · cases h
    · split at h
      · next h3 =>
        rw [Bool.not_eq_false] at h1
        rw [Bool.and_eq_true, Bool.and_eq_true, Bool.and_eq_true] at h1
        obtain ⟨⟨⟨q1, q2⟩, q3⟩, q4⟩ := h1
        obtain ⟨pp, p1, p2⟩ := plaP_ex q1
        obtain ⟨c1, a1, a2, a3⟩ := endP_ex hN q2
        obtain ⟨c2, b1, b2, b3⟩ := endP_ex hN q3
        exact ⟨q4, h3, pp, c1, c2, p1, a1, b1, a3, b3, p2, a2, b2⟩
      · cases h
theorem BQ.fr {I' : Nat → Nat → Int32} {J' : Nat → Nat → Int64} {A' : Nat → Nat → Int32} (h : BQ K R C I J A B) (h1 : I' 1 = I 1) (h9 : I' 9 = I 9) (h10 : I' 10 = I 10) (j1 : J' 1 = J 1) (j9 : J' 9 = J 9) (a2 : A' 2 = A 2) (a3 : A' 3 = A 3) (a4 : A' 4 = A 4) (a11 : A' 11 = A 11) (a12 : A' 12 = A 12) (a13 : A' 13 = A 13) (a14 : A' 14 = A 14) {B' : Nat → Nat → Int64} (b5 : B' 5 = B 5) (b6 : B' 6 = B 6) : BQ K R C I' J' A' B' := by
  obtain ⟨q1, q2⟩ := h
  refine ⟨fun a ha => by rw [a12]; exact q1 a ha, ?_⟩
  rcases q2 with q | ⟨q, s0, s1, tu, t, w1, w2, w3, w4, w5, w6, w7, w8⟩
  · left; rw [h9]; exact q
  · right
    refine ⟨by rw [h9]; exact q, s0, s1, tu, t, w1.fr h1 j1 a2 a3 a4 b5 b6, ⟨w2.1, by rw [h10]; exact w2.2.1, fun k hk => by rw [a11]; exact w2.2.2 k hk⟩, fun a ha => by rw [a12]; exact w3 a ha, by rw [j9]; exact w4, by rw [j9]; exact w5, by rw [h9]; exact w6, fun p a hp ha => by rw [a13]; exact w7 p a hp ha, fun a b ha hb hab => by rw [a14]; exact w8 a b ha hb hab⟩
theorem cC_carrier_no (h : CG K R C lg m sw I J A B) {p one oth : Int32} (hc : lkC K R C lg m sw true p one oth ≠ 0) : f_X10_carrier [.ref 0, .int p, .int one, .int oth] (79, e, mm_R0, I, J, A, B) = some (.inr (lkC K R C lg m sw true p one oth), (79, e + 1, mm_R0, I, J, A, B)) := by
  rw [en_X10_carrier, sg_X10_carrier_0, sp_needLink e I J A B h, if_neg hc, mm_aft_x]
theorem lk_fr {I' : Nat → Nat → Int32} {J' : Nat → Nat → Int64} {A' : Nat → Nat → Int32} (f1 : ∀ i, i ≠ 15 → i ≠ 16 → I' i = I i) (f2 : ∀ i, i ≠ 15 → J' i = J i) (f3 : ∀ i, i ≠ 17 → i ≠ 19 → i ≠ 20 → A' i = A i) (h : BQ K R C I J A B) : BQ K R C I' J' A' B ∧ FC I I' J J' A A' B B :=
  ⟨BQ.fr I J A B h (f1 1 (by decide) (by decide)) (f1 9 (by decide) (by decide)) (f1 10 (by decide) (by decide)) (f2 1 (by decide)) (f2 9 (by decide)) (f3 2 (by decide) (by decide) (by decide)) (f3 3 (by decide) (by decide) (by decide)) (f3 4 (by decide) (by decide) (by decide)) (f3 11 (by decide) (by decide) (by decide)) (f3 12 (by decide) (by decide) (by decide)) (f3 13 (by decide) (by decide) (by decide)) (f3 14 (by decide) (by decide) (by decide)) rfl rfl, ⟨fun i _ _ c d => f1 i c d, fun i _ b _ => f2 i b, fun i _ _ _ d e' f _ => f3 i d e' f, fun _ => rfl⟩⟩
theorem cC_carrier (h : CG K R C lg m sw I J A B) {p c1 c2 : Nat} (hp : p < 2) (o1 : okE K R C c1) (o2 : okE K R C c2) (hc : lkC K R C lg m sw true (i32 p) (i32 c1) (i32 c2) = 0) : ∃ I' J' A' v, f_X10_carrier [.ref 0, .int (i32 p), .int (i32 c1), .int (i32 c2)] (79, e, mm_R0, I, J, A, B) = some (.inl (some (.long v)), (79, e, mm_R0, I', J', A', B)) ∧ CarP K R C (emp (bN K R C) (sN lg m sw 0) (sN lg m sw 1)) (sN lg m sw p) c1 c2 v ∧ BQ K R C I' J' A' B ∧ FC I I' J J' A A' B B := by
  have hg := (lkC_0 hc (bN_le h.1.v)).2.1
  obtain ⟨I', J', A', v, a1, a2, a3, a4, a5, a6⟩ := sp_carrierOf (E := emp (bN K R C) (sN lg m sw 0) (sN lg m sw 1)) (own := sN lg m sw p) e I J B A h.1 h.2.2.2.2.2.2 hg o1 o2
  obtain ⟨q1, q2⟩ := lk_fr I J A B a4 a5 a6 h.2.2.2.2.2.1
  refine ⟨I', J', A', v, ?_, a2, q1, q2⟩
  rw [en_X10_carrier, sg_X10_carrier_0, sp_needLink e I J A B h, if_pos hc, mm_aft_n, sg_X10_carrier_7, sp0_stones e I J A B h hp, mm_aft_v, sg_X10_carrier_19, sp0_empty e I J A B h, mm_aft_v, sg_X10_carrier_26, a1, mm_aft_v, sg_X10_carrier_31]
theorem lkC_ex (ex : Bool) (p one oth : Int32) (h : ex = false) : lkC K R C lg m sw ex p one oth = 1 := by
  unfold lkC
  rw [h, Bool.and_false, if_pos rfl]
theorem cC_answer_no (h : CG K R C lg m sw I J A B) {p one oth cl : Int32} (hc : lkC K R C lg m sw (cellP (bN K R C) cl) p one oth ≠ 0) : f_X10_answer [.ref 0, .int p, .int one, .int oth, .int cl] (79, e, mm_R0, I, J, A, B) = some (.inr (lkC K R C lg m sw (cellP (bN K R C) cl) p one oth), (79, e + 1, mm_R0, I, J, A, B)) := by
  rw [en_X10_answer, sg_X10_answer_0, sp_hasCell e I J A B h.1, mm_aft_v, sg_X10_answer_9]
  cases q : cellP (bN K R C) cl with
  | false => rw [if_pos (show bi false = 0 from rfl), lkC_ex _ _ _ _ rfl]
  | true =>
    rw [q] at hc
    rw [if_neg (show ¬ bi true = 0 by decide), sp_needLink e I J A B h, if_neg hc, mm_aft_x]
theorem cC_answer (h : CG K R C lg m sw I J A B) {p c1 c2 cl : Nat} (hp : p < 2) (o1 : okE K R C c1) (o2 : okE K R C c2) (hcl : cl < bN K R C) (hc : lkC K R C lg m sw true (i32 p) (i32 c1) (i32 c2) = 0) : ∃ I' J' A' x, f_X10_answer [.ref 0, .int (i32 p), .int (i32 c1), .int (i32 c2), .int (i32 cl)] (79, e, mm_R0, I, J, A, B) = some (.inl (some (.int x)), (79, e, mm_R0, I', J', A', B)) ∧ AnwP K R C (emp (bN K R C) (sN lg m sw 0) (sN lg m sw 1)) (sN lg m sw p) c1 c2 cl x ∧ BQ K R C I' J' A' B ∧ FC I I' J J' A A' B B := by
  have hN := bN_le h.1.v
  have hg := (lkC_0 hc hN).2.1
  obtain ⟨I', J', A', v, a1, a2, a3, a4, a5, a6⟩ := sp_carrierOf (E := emp (bN K R C) (sN lg m sw 0) (sN lg m sw 1)) (own := sN lg m sw p) e I J B A h.1 h.2.2.2.2.2.2 hg o1 o2
  obtain ⟨q1, q2⟩ := lk_fr I J A B a4 a5 a6 h.2.2.2.2.2.1
  have st : f_X10_answer [.ref 0, .int (i32 p), .int (i32 c1), .int (i32 c2), .int (i32 cl)] (79, e, mm_R0, I, J, A, B) = mm_run (mm_pr tb_X10_answer) (53, [some (.ref 0), some (.int (i32 p)), some (.int (i32 c1)), some (.int (i32 c2)), some (.int (i32 cl)), none, none], [.long v], (79, e, mm_R0, I', J', A', B)) := by
    rw [en_X10_answer, sg_X10_answer_0, sp_hasCell e I J A B h.1, mm_aft_v, sg_X10_answer_9, cellP_i hN (by omega), decide_eq_true hcl, if_neg (show ¬ bi true = 0 by decide), sp_needLink e I J A B h, if_pos hc, mm_aft_n, sg_X10_answer_29, sp0_stones e I J A B h hp, mm_aft_v, sg_X10_answer_41, sp0_empty e I J A B h, mm_aft_v, sg_X10_answer_48, a1, mm_aft_v]
  rw [st, sg_X10_answer_53]
  rcases a2 with ⟨v1, v2⟩ | ⟨c, v1, v2⟩
  · refine ⟨I', J', A', iN, ?_, Or.inl ⟨rfl, v2⟩, q1, q2⟩
    rw [if_pos v1, sg_X10_answer_74, sg_X10_answer_89]
    rfl
  · subst v2
    rw [if_neg (spr_ne _ _ (Nat.le_refl _)), sp_has _ _ (by omega), mm_aft_v, sg_X10_answer_71]
    cases hm : mb (spr (emp (bN K R C) (sN lg m sw 0) (sN lg m sw 1)) c (gn (emp (bN K R C) (sN lg m sw 0) (sN lg m sw 1)))) cl with
    | false =>
      refine ⟨I', J', A', iN, ?_, Or.inr ⟨c, v1, Or.inl ⟨rfl, hm⟩⟩, q1, q2⟩
      rw [if_pos (show bi false = 0 from rfl), sg_X10_answer_74, sg_X10_answer_89]
      rfl
    | true =>
      obtain ⟨A2, x, b1, b2, b3, b4⟩ := sp_answerIn e I' J' B A' a3 v1.1 hm
      obtain ⟨q3, q4⟩ := lk_fr I J A B (A' := A2) a4 a5 (fun i i1 i2 i3 => by rw [b4 i i2 i3, a6 i i1 i2 i3]) h.2.2.2.2.2.1
      refine ⟨I', J', A2, x, ?_, Or.inr ⟨c, v1, Or.inr ⟨hm, b2⟩⟩, q3, q4⟩
      rw [if_neg (show ¬ bi true = 0 by decide), b1, mm_aft_v, sg_X10_answer_89]
end
