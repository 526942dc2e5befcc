/-! the law's games played out -/
section
variable {K R C : Nat} {lg : Nat → Nat} {m : Nat} {sw : Bool} {ea : Nat} {tk : Bool} {se pe us : Nat → Nat} {lo : Nat} {rc : Bool} {t : Nat} {tp : Nat → Nat} {pn : Nat} {ln : Nat → Nat} {tx : Nat → Nat → Nat} {n : Nat} {ra : Nat → Int} {pl wo ls : Nat → Nat} {c : Nat}
theorem RWd.one {I I' : Nat → Nat → Int32} {J J' : Nat → Nat → Int64} {A A' : Nat → Nat → Int32} {B B' : Nat → Nat → Int64} (h : RWd K R C lg m sw ea tk se pe us lo rc t tp pn ln tx n ra pl wo ls c I J A B) (h1 : CSd K R C lg m sw ea tk se pe us lo rc t tp pn ln tx n ra pl wo ls I' J' A' B') (f : H39 I I' J J' A A' B B') : RWd K R C lg m sw ea tk se pe us lo rc t tp pn ln tx n ra pl wo ls c I' J' A' B' := ⟨h1, h.2.1.low (pI_hi f.1) (pI_hi f.2.1) (pI_hi f.2.2.1) (pI_hi f.2.2.2), h.2.2.1.co (f.2.2.1 78 (by decide)), h.2.2.2⟩
theorem bo_plays (hb : BXd K R C lg m sw ea tk se pe us lo rc t tp pn ln tx n ra pl wo ls c) {s k : Nat} (hs : s ≤ 1000000) (h1 : 1 ≤ k) (h2 : k ≤ 50) (y5 y6 : Int32) : (¬ jnd K R C (sN lg m sw 0) (sN lg m sw 1) = iN ∧ Cal f_L_call [.int (12 : Int32), .int (i32 s), .int (i32 k), .int y5, .int y6] (some (.int (-2000000003 : Int32))) (fun I J A B => CSd K R C lg m sw ea tk se pe us lo rc t tp pn ln tx n ra pl wo ls I J A B) (fun I J A B => CSd K R C lg m sw ea tk se pe us lo rc t tp pn ln tx n ra pl wo ls I J A B)) ∨ (jnd K R C (sN lg m sw 0) (sN lg m sw 1) = iN ∧ Cal f_L_call [.int (12 : Int32), .int (i32 s), .int (i32 k), .int y5, .int y6] (some (.int (i32 (plV K R C lg m sw s k)))) (fun I J A B => CSd K R C lg m sw ea tk se pe us lo rc t tp pn ln tx n ra pl wo ls I J A B) (fun I J A B => CSd K R C lg m sw ea tk se pe us lo rc t tp pn ln tx n ra pl wo ls I J A B)) := by
  by_cases hj : jnd K R C (sN lg m sw 0) (sN lg m sw 1) = iN
  · refine Or.inr ⟨hj, fun e I J A B hc => ?_⟩
    obtain ⟨e', I', J', A', B', r1, r2, r3, r4⟩ := cx_plays hs h1 h2 hj e I J A B hc
    exact ⟨e', I', J', A', B', wl_plays e I J A B _ _ _ _ r1, r2, r3, r4⟩
  · exact Or.inl ⟨hj, Cal.no (fun e I J A B hc => wx_plays_3 e I J A B _ _ _ _ (cC_plays_2 e I J A B hc.1 hs h1 h2 hj))⟩
/-- one game played out: nothing is found -/
theorem seeds_in (e : Nat) (I : Nat → Nat → Int32) (J : Nat → Nat → Int64) (A : Nat → Nat → Int32) (B : Nat → Nat → Int64) (hc : CSd K R C lg m sw ea tk se pe us lo rc t tp pn ln tx n ra pl wo ls I J A B) (hb : BXd K R C lg m sw ea tk se pe us lo rc t tp pn ln tx n ra pl wo ls c) (hN : A 78 ((0 : Int32)).toInt.toNat = i32 (bN K R C)) (s : Nat) (x3 x4 x5 x6 x8 : Int32) : ∀ d k, k + d = bN K R C → mm_run (mm_pr tb_L_seeds) (102, [some (.ref 0), some (.ref 39), some (.ref 78), some (.int x3), some (.int x4), some (.int x5), some (.int x6), some (.int (i32 0)), some (.int x8), some (.long (poV K R C lg m sw s)), none, some (.int (i32 (cf (mb (poV K R C lg m sw s)) k))), some (.int (i32 k))], [], (79, e, mm_R0, I, J, A, B)) = mm_run (mm_pr tb_L_seeds) (78, [some (.ref 0), some (.ref 39), some (.ref 78), some (.int x3), some (.int x4), some (.int x5), some (.int x6), some (.int (i32 0)), some (.int (x8 + (1 : Int32))), some (.long (poV K R C lg m sw s)), none, some (.int (i32 (cf (mb (poV K R C lg m sw s)) (bN K R C)))), some (.int (i32 (bN K R C)))], [], (79, e, mm_R0, I, J, A, B)) := by
  have w := hb.1
  have bl := bN_le w.1
  have b3 := bN_pos w.1
  obtain ⟨p1, p2, p3, p4, p5⟩ := po_count w s
  have cs : cf (mb (poV K R C lg m sw s)) 36 = cf (mb (poV K R C lg m sw s)) (bN K R C) := cf_stop (fun x hx => bool_f (fun z => by have := p3 x z; omega)) bl
  intro d
  induction d with
  | zero =>
    intro k hk
    have e1 : k = bN K R C := by omega
    subst e1
    have dv : i32 (bN K R C) / (2 : Int32) = i32 (bN K R C / 2) := i32_div (b := 2) (by omega) (by decide) (by decide)
    rw [sg_L_seeds_102, hN, if_neg (by rw [i32_lt (by omega) (by omega)]; omega), dv, show i32 (bN K R C / 2) - (1 : Int32) = i32 (bN K R C / 2 - 1) from i32_sub (b := 1) (by omega), show i32 (bN K R C / 2) + (1 : Int32) = i32 (bN K R C / 2 + 1) from i32_add _ 1, if_neg (show ¬ i32 (cf (mb (poV K R C lg m sw s)) (bN K R C)) < i32 (bN K R C / 2 - 1) by rw [i32_lt (by omega) (by omega)]; omega), if_neg (show ¬ i32 (bN K R C / 2 + 1) < i32 (cf (mb (poV K R C lg m sw s)) (bN K R C)) by rw [i32_lt (by omega) (by omega)]; omega), sg_L_seeds_218]
    rfl
  | succ d ih =>
    intro k hk
    have kN : k < bN K R C := by omega
    have hh := fun S => lw_has S (poV K R C lg m sw s) (k := k) (by omega)
    have ce := qa_cell e I J A B hc w kN (v := 0) (by decide)
    have c0 := cl0 (K := K) (R := R) (C := C) (lg := lg) (m := m) (sw := sw) k
    rw [sg_L_seeds_102, hN, if_pos (by rw [i32_lt (by omega) (by omega)]; omega), hh, mm_aft_v, sg_L_seeds_119]
    -- counted
    have cnt : ∀ (y : Int32), y = i32 ((mb (poV K R C lg m sw s) k).toNat) → mm_run (mm_pr tb_L_seeds) (127, [some (.ref 0), some (.ref 39), some (.ref 78), some (.int x3), some (.int x4), some (.int x5), some (.int x6), some (.int (i32 0)), some (.int x8), some (.long (poV K R C lg m sw s)), none, some (.int (i32 (cf (mb (poV K R C lg m sw s)) k))), some (.int (i32 k))], [.int y, .int (i32 (cf (mb (poV K R C lg m sw s)) k))], (79, e, mm_R0, I, J, A, B)) = mm_run (mm_pr tb_L_seeds) (78, [some (.ref 0), some (.ref 39), some (.ref 78), some (.int x3), some (.int x4), some (.int x5), some (.int x6), some (.int (i32 0)), some (.int (x8 + (1 : Int32))), some (.long (poV K R C lg m sw s)), none, some (.int (i32 (cf (mb (poV K R C lg m sw s)) (bN K R C)))), some (.int (i32 (bN K R C)))], [], (79, e, mm_R0, I, J, A, B)) := by
      intro y hy
      have nx := ih (k + 1) (by omega)
      have fin : mm_run (mm_pr tb_L_seeds) (177, [some (.ref 0), some (.ref 39), some (.ref 78), some (.int x3), some (.int x4), some (.int x5), some (.int x6), some (.int (i32 0)), some (.int x8), some (.long (poV K R C lg m sw s)), none, some (.int (i32 (cf (mb (poV K R C lg m sw s)) (k + 1)))), some (.int (i32 k))], [.int (i32 0)], (79, e, mm_R0, I, J, A, B)) = mm_run (mm_pr tb_L_seeds) (78, [some (.ref 0), some (.ref 39), some (.ref 78), some (.int x3), some (.int x4), some (.int x5), some (.int x6), some (.int (i32 0)), some (.int (x8 + (1 : Int32))), some (.long (poV K R C lg m sw s)), none, some (.int (i32 (cf (mb (poV K R C lg m sw s)) (bN K R C)))), some (.int (i32 (bN K R C)))], [], (79, e, mm_R0, I, J, A, B)) := by
        rw [sg_L_seeds_177, sg_L_seeds_178, show i32 k + (1 : Int32) = i32 (k + 1) from i32_add k 1]
        exact nx
      have s152 : mb (sN lg m sw 0) k = true ∨ mb (emp (bN K R C) (sN lg m sw 0) (sN lg m sw 1)) k = true ∨ mb (sN lg m sw 1) k = true → mm_run (mm_pr tb_L_seeds) (152, [some (.ref 0), some (.ref 39), some (.ref 78), some (.int x3), some (.int x4), some (.int x5), some (.int x6), some (.int (i32 0)), some (.int x8), some (.long (poV K R C lg m sw s)), none, some (.int (i32 (cf (mb (poV K R C lg m sw s)) (k + 1)))), some (.int (i32 k))], [.int (i32 0)], (79, e, mm_R0, I, J, A, B)) = mm_run (mm_pr tb_L_seeds) (78, [some (.ref 0), some (.ref 39), some (.ref 78), some (.int x3), some (.int x4), some (.int x5), some (.int x6), some (.int (i32 0)), some (.int (x8 + (1 : Int32))), some (.long (poV K R C lg m sw s)), none, some (.int (i32 (cf (mb (poV K R C lg m sw s)) (bN K R C)))), some (.int (i32 (bN K R C)))], [], (79, e, mm_R0, I, J, A, B)) := by
        intro _
        rw [sg_L_seeds_152, show (0 : Int32) = i32 0 from rfl, ce, mm_aft_v, sg_L_seeds_159]
        by_cases z : clV K R C lg m sw k 0 = (1 : Int32)
        · rw [if_pos z, hh, mm_aft_v, sg_L_seeds_170]
          have m1 : mb (sN lg m sw 1) k = true := by
            rw [c0] at z
            by_cases q : mb (emp (bN K R C) (sN lg m sw 0) (sN lg m sw 1)) k = true
            · rw [if_pos q] at z; exact absurd z (by decide)
            · rw [if_neg q] at z
              by_cases q2 : mb (sN lg m sw 0) k = true
              · rw [if_pos q2] at z; exact absurd z (by decide)
              · rcases (emp_f w kN).1 (bool_f q) with y | y
                · exact absurd y q2
                · exact y
          rw [p2 k m1, if_pos (show bi false = 0 from rfl)]
          exact fin
        · rw [if_neg z]
          exact fin
      rw [hy, sg_L_seeds_127, i32_add, show (0 : Int32) = i32 0 from rfl, ce, mm_aft_v, sg_L_seeds_139]
      have un : cf (mb (poV K R C lg m sw s)) k + (mb (poV K R C lg m sw s) k).toNat = cf (mb (poV K R C lg m sw s)) (k + 1) := rfl
      rw [un]
      have tri : mb (sN lg m sw 0) k = true ∨ mb (emp (bN K R C) (sN lg m sw 0) (sN lg m sw 1)) k = true ∨ mb (sN lg m sw 1) k = true := by
        by_cases q : mb (emp (bN K R C) (sN lg m sw 0) (sN lg m sw 1)) k = true
        · exact Or.inr (Or.inl q)
        · rcases (emp_f w kN).1 (bool_f q) with y | y
          · exact Or.inl y
          · exact Or.inr (Or.inr y)
      by_cases z : clV K R C lg m sw k 0 = 0
      · rw [if_pos z, hh, mm_aft_v, sg_L_seeds_149]
        have m0 : mb (sN lg m sw 0) k = true := by
          rw [c0] at z
          by_cases q : mb (emp (bN K R C) (sN lg m sw 0) (sN lg m sw 1)) k = true
          · rw [if_pos q] at z; exact absurd z (by decide)
          · rw [if_neg q] at z
            by_cases q2 : mb (sN lg m sw 0) k = true
            · exact q2
            · rw [if_neg q2] at z; exact absurd z (by decide)
        rw [p1 k m0, if_neg (show ¬ bi true = 0 by decide)]
        exact s152 tri
      · rw [if_neg z]
        exact s152 tri
    cases q : mb (poV K R C lg m sw s) k with
    | true =>
      rw [if_neg (show ¬ bi true = 0 by decide)]
      exact cnt 1 (by rw [q]; rfl)
    | false =>
      rw [if_pos (show bi false = 0 from rfl)]
      exact cnt 0 (by rw [q]; rfl)
theorem seeds_out (x3 : Int32) {s ti : Nat} (hs : s ≤ 999000) (ht : ti ≤ 4) {pv : Nat} (hp : pv ≤ ti) (hj : jnd K R C (sN lg m sw 0) (sN lg m sw 1) = iN) : ∀ d k (e : Nat) (I : Nat → Nat → Int32) (J : Nat → Nat → Int64) (A : Nat → Nat → Int32) (B : Nat → Nat → Int64) (o9 o10 o11 o12 : Option Value), k + d = ti → RWd K R C lg m sw ea tk se pe us lo rc t tp pn ln tx n ra pl wo ls c I J A B → ∃ e' I' J' A' B' r9 r10 r11 r12, mm_run (mm_pr tb_L_seeds) (78, [some (.ref 0), some (.ref 39), some (.ref 78), some (.int x3), some (.int (i32 s)), some (.int (i32 ti)), some (.int (i32 pv)), some (.int (i32 0)), some (.int (i32 k)), o9, o10, o11, o12], [], (79, e, mm_R0, I, J, A, B)) = mm_run (mm_pr tb_L_seeds) (249, [some (.ref 0), some (.ref 39), some (.ref 78), some (.int x3), some (.int (i32 s)), some (.int (i32 ti)), some (.int (i32 pv)), some (.int (i32 0)), some (.int (i32 ti)), r9, r10, r11, r12], [.int 1], (79, e', mm_R0, I', J', A', B')) ∧ RWd K R C lg m sw ea tk se pe us lo rc t tp pn ln tx n ra pl wo ls c I' J' A' B' ∧ e' ≤ e + d := by
  intro d
  induction d with
  | zero =>
    intro k e I J A B o9 o10 o11 o12 hk h
    have e1 : k = ti := by omega
    subst e1
    refine ⟨e, I, J, A, B, o9, o10, o11, o12, ?_, h, Nat.le_refl _⟩
    rw [sg_L_seeds_78, if_neg (by rw [i32_lt (by omega) (by omega)]; omega), if_neg (show ¬ i32 pv < 0 by rw [show (0 : Int32) = i32 0 from rfl, i32_lt (by omega) (by decide)]; omega), if_neg (show ¬ i32 k < i32 pv by rw [i32_lt (by omega) (by omega)]; omega), if_pos (show i32 0 = 0 from rfl)]
  | succ d ih =>
    intro k e I J A B o9 o10 o11 o12 hk h
    obtain ⟨e1, I1, J1, A1, B1, r1, r2, r3, r4⟩ := cx_playedOut (s := s + k) (by omega) hj e I J A B h.1
    have h' := h.one r2 r3
    have hN : A1 78 ((0 : Int32)).toInt.toNat = i32 (bN K R C) := h'.2.2.1.1
    have inn := seeds_in e1 I1 J1 A1 B1 r2 h.2.2.2 hN (s + k) x3 (i32 s) (i32 ti) (i32 pv) (i32 k) (bN K R C) 0 (by omega)
    obtain ⟨e', I', J', A', B', q9, q10, q11, q12, k1, k2, k3⟩ := ih (k + 1) e1 I1 J1 A1 B1 (some (.long (poV K R C lg m sw (s + k)))) none (some (.int (i32 (cf (mb (poV K R C lg m sw (s + k))) (bN K R C))))) (some (.int (i32 (bN K R C)))) (by omega) h'
    refine ⟨e', I', J', A', B', q9, q10, q11, q12, ?_, k2, by omega⟩
    rw [sg_L_seeds_78, if_pos (by rw [i32_lt (by omega) (by omega)]; omega), i32_add, r1, mm_aft_v, sg_L_seeds_94]
    refine Eq.trans inn ?_
    rw [show i32 k + (1 : Int32) = i32 (k + 1) from i32_add k 1]
    exact k1
theorem lw_seeds (e : Nat) (I : Nat → Nat → Int32) (J : Nat → Nat → Int64) (A : Nat → Nat → Int32) (B : Nat → Nat → Int64) (h : RWd K R C lg m sw ea tk se pe us lo rc t tp pn ln tx n ra pl wo ls c I J A B) (x3 : Int32) : LStp f_L_seeds [.ref 0, .ref 39, .ref 78, .int x3] c c 8 e I J A B := by
  obtain ⟨s, s1, s2⟩ := lw_some (79, e, mm_R0, I, J, A, B) x3 (k := 999000) (by decide) (by decide)
  obtain ⟨u, u1, u2⟩ := lw_some (79, e, mm_R0, I, J, A, B) (x3 >>> ((4 : Int32) &&& 31)) (k := 4) (by decide) (by decide)
  have hb := h.2.2.2
  have w := hb.1
  have hl := hb.2.1.1
  unfold LStp
  rw [en_L_seeds, sg_L_seeds_0, show (999000 : Int32) = i32 999000 from rfl, s2, mm_aft_v, sg_L_seeds_6]
  have u2' : f_L_some [.int (x3 >>> ((4 : Int32) &&& 31)), .int (4 : Int32)] (79, e, mm_R0, I, J, A, B) = some (.inl (some (.int (i32 u))), (79, e, mm_R0, I, J, A, B)) := u2
  rw [u2', mm_aft_v, sg_L_seeds_16, show (1 : Int32) + i32 u = i32 (1 + u) from i32_add 1 u]
  rcases bo_plays hb (s := s) (k := 1 + u) (by omega) (by omega) (by omega) 0 0 with ⟨k1, k2⟩ | ⟨k1, k2⟩
  · obtain ⟨e', I', J', A', B', r1, r2, r3, r4, r5⟩ := both_of k2 (CSd.lowP _ _ _ _ _ _ _ _ _ _ _ _ _ _ _ _ _ _ _ _ _ _ _) (CSd.lowP _ _ _ _ _ _ _ _ _ _ _ _ _ _ _ _ _ _ _ _ _ _ _) e I J A B h.1 h.2.1
    refine ⟨e' + 1, I', J', A', B', ?_, RWd.rx _ _ _ _ ⟨r2, r3, h.2.2.1.co r4, hb⟩, by omega⟩
    have t3 := qa_told e' I' J' A' B' r2 w hl (v := 3) (by decide)
    rw [td_3] at t3
    have po := wx_playedOut_3 e' I' J' A' B' (i32 s) 0 0 (cC_playedOut_2 e' I' J' A' B' r2.1 (s := s) (by omega) k1)
    rw [r1, mm_aft_v, sg_L_seeds_32, if_pos rfl, show (3 : Int32) = i32 3 from rfl, t3, mm_aft_v, sg_L_seeds_46, if_neg (show ¬ jnd K R C (sN lg m sw 0) (sN lg m sw 1) = (-1 : Int32) from k1), po, mm_aft_v, sg_L_seeds_59, if_pos rfl, sg_L_seeds_71, if_pos (Or.inr rfl)]
  · obtain ⟨e', I', J', A', B', r1, r2, r3, r4, r5⟩ := both_of k2 (CSd.lowP _ _ _ _ _ _ _ _ _ _ _ _ _ _ _ _ _ _ _ _ _ _ _) (CSd.lowP _ _ _ _ _ _ _ _ _ _ _ _ _ _ _ _ _ _ _ _ _ _ _) e I J A B h.1 h.2.1
    have pl : plV K R C lg m sw s (1 + u) ≤ 1 + u := cf_le _ _
    obtain ⟨e2, I2, J2, A2, B2, q9, q10, q11, q12, z1, z2, z3⟩ := seeds_out (c := c) x3 (s := s) (ti := 1 + u) (by omega) (by omega) pl k1 (1 + u) 0 e' I' J' A' B' none none none none (by omega) ⟨r2, r3, h.2.2.1.co r4, hb⟩
    refine ⟨e2, I2, J2, A2, B2, ?_, RWd.rx _ _ _ _ z2, by omega⟩
    have bn := big_ne (a := plV K R C lg m sw s (1 + u)) (by omega)
    rw [r1, mm_aft_v, sg_L_seeds_32, if_neg bn.2.1]
    refine Eq.trans z1 ?_
    rw [sg_L_seeds_249, if_pos (Or.inr rfl)]
end
