/-! links in the reference: codes, ends, one filling -/
def cs : Nat → Nat → Nat → Nat
  | 0, _, _ => 0
  | n + 1, a, b => cs n a b + ((a.testBit n).toNat + 2 * (b.testBit n).toNat) * 3 ^ n
theorem cs_congr {a b a' b' : Nat} : ∀ n, (∀ i, i < n → a.testBit i = a'.testBit i ∧ b.testBit i = b'.testBit i) → cs n a b = cs n a' b' := by
  intro n
  induction n with
  | zero => intro _; rfl
  | succ n ih =>
    intro h
    show cs n a b + _ = cs n a' b' + _
    rw [ih (fun i hi => h i (by omega)), (h n (by omega)).1, (h n (by omega)).2]
theorem and0_d {a b : Nat} (h : a &&& b = 0) (n : Nat) : (a.testBit n).toNat + 2 * (b.testBit n).toNat < 3 := by
  have := and0_bit h n
  cases q : a.testBit n <;> cases q2 : b.testBit n <;> simp [q, q2] at this ⊢
theorem cs_lt {a b : Nat} (h : a &&& b = 0) : ∀ n, cs n a b < 3 ^ n := by
  intro n
  induction n with
  | zero => exact Nat.one_pos
  | succ n ih =>
    show cs n a b + _ < _
    have d := and0_d h n
    generalize (a.testBit n).toNat + 2 * (b.testBit n).toNat = x at d ⊢
    have : x * 3 ^ n ≤ 2 * 3 ^ n := Nat.mul_le_mul_right _ (by omega)
    rw [Nat.pow_succ]
    omega
theorem cs_dg {a b : Nat} (h : a &&& b = 0) : ∀ n k, k < n → dg (cs n a b) k = (a.testBit k).toNat + 2 * (b.testBit k).toNat := by
  intro n
  induction n with
  | zero => intro k hk; omega
  | succ n ih =>
    intro k hk
    have z : dg (cs n a b) n = 0 := by unfold dg; rw [Nat.div_eq_of_lt (cs_lt h n)]
    show dg (cs n a b + ((a.testBit n).toNat + 2 * (b.testBit n).toNat) * 3 ^ n) k = _
    rw [Nat.mul_comm, dg_put z (and0_d h n)]
    by_cases q : k = n
    · subst q; rw [if_pos rfl]
    · rw [if_neg q]; exact ih k (by omega)
theorem cs_inj {n a b a' b' : Nat} (h1 : a < 2 ^ n) (h2 : b < 2 ^ n) (h3 : a' < 2 ^ n) (h4 : b' < 2 ^ n) (hd : a &&& b = 0) (hd' : a' &&& b' = 0) (he : cs n a b = cs n a' b') : a = a' ∧ b = b' := by
  have key : ∀ i, a.testBit i = a'.testBit i ∧ b.testBit i = b'.testBit i := by
    intro i
    by_cases q : i < n
    · have e := cs_dg hd n i q
      rw [he, cs_dg hd' n i q] at e
      have d1 := and0_bit hd i
      have d2 := and0_bit hd' i
      cases x1 : a.testBit i <;> cases x2 : b.testBit i <;> cases x3 : a'.testBit i <;> cases x4 : b'.testBit i <;> simp [x1, x2, x3, x4] at e d1 d2 ⊢
    · have p := Nat.pow_le_pow_right (n := 2) (by decide) (show n ≤ i by omega)
      rw [Nat.testBit_lt_two_pow (Nat.lt_of_lt_of_le h1 p), Nat.testBit_lt_two_pow (Nat.lt_of_lt_of_le h2 p), Nat.testBit_lt_two_pow (Nat.lt_of_lt_of_le h3 p), Nat.testBit_lt_two_pow (Nat.lt_of_lt_of_le h4 p)]
      exact ⟨rfl, rfl⟩
  exact ⟨Nat.eq_of_testBit_eq (fun i => (key i).1), Nat.eq_of_testBit_eq (fun i => (key i).2)⟩
theorem cs_rm {a b k : Nat} (hb : a.testBit k = true) : ∀ n, k < n → cs n a b = cs n (ndf a (2 ^ k)) b + 3 ^ k := by
  intro n
  induction n with
  | zero => intro h; omega
  | succ n ih =>
    intro h
    show cs n a b + _ = cs n (ndf a (2 ^ k)) b + _ + _
    by_cases q : k = n
    · subst q
      rw [cs_congr (a := a) (a' := ndf a (2 ^ k)) (b := b) (b' := b) k (fun i hi => ⟨by rw [tb_rm, decide_eq_false (by omega)]; simp, rfl⟩), hb, tb_rm, decide_eq_true rfl, hb]
      simp only [Bool.toNat_true, Bool.not_true, Bool.and_false, Bool.toNat_false]
      rw [Nat.add_mul, Nat.zero_add]
      omega
    · rw [ih (by omega), tb_rm, decide_eq_false q, Bool.not_false, Bool.and_true]
      omega
theorem cs_ad {a b k : Nat} (hb : b.testBit k = false) : ∀ n, k < n → cs n a (b ||| 2 ^ k) = cs n a b + 2 * 3 ^ k := by
  intro n
  induction n with
  | zero => intro h; omega
  | succ n ih =>
    intro h
    show cs n a (b ||| 2 ^ k) + _ = cs n a b + _ + _
    by_cases q : k = n
    · subst q
      rw [cs_congr (a := a) (a' := a) (b := b ||| 2 ^ k) (b' := b) k (fun i hi => ⟨rfl, by rw [tb_ad, decide_eq_false (by omega), Bool.or_false]⟩), hb, tb_ad, decide_eq_true rfl, hb]
      simp only [Bool.toNat_true, Bool.or_true, Bool.toNat_false, Nat.add_mul, Nat.mul_zero, Nat.mul_one, Nat.add_zero]
      omega
    · rw [ih (by omega), tb_ad, decide_eq_false q, Bool.or_false]
      omega
theorem cs_mv {a b k n : Nat} (ha : a.testBit k = true) (hb : b.testBit k = false) (hk : k < n) : cs n (ndf a (2 ^ k)) (b ||| 2 ^ k) = cs n a b + 3 ^ k := by
  have x := cs_rm (b := b) ha n hk
  rw [cs_ad hb n hk]
  omega
theorem rm_lt {r k : Nat} (h : r.testBit k = true) : ndf r (2 ^ k) < r := by
  have le : ndf r (2 ^ k) ≤ r := Nat.le_of_testBit (fun i q => by
    rw [tb_rm, Bool.and_eq_true] at q; exact q.1)
  have ne : ndf r (2 ^ k) ≠ r := fun z => by
    have : (ndf r (2 ^ k)).testBit k = true := by rw [z]; exact h
    rw [tb_rm, decide_eq_true rfl] at this
    simp at this
  omega
/-- whether ends are tied by stones -/
def TW (K R C : Nat) (w : Int64) (one oth : Nat) : Prop := ¬ (rcB K R C (ce K R C one) w &&& ce K R C oth = 0)
section
variable {K R C : Nat} (k : Nat) (r : Nat → Nat → Value) (e : Nat) (I : Nat → Nat → Int32) (J : Nat → Nat → Int64) (A : Nat → Nat → Int32) (B : Nat → Nat → Int64)
theorem sp_MendCells (h : MB K R C I A B) {x : Nat} (hx : okE K R C x) : f_X11_endCells [.ref 39, .int (i32 x)] (k + 64, e, (mm_RM r), I, J, A, B) = some (.inl (some (.long (ce K R C x))), (k + 64, e, (mm_RM r), I, J, A, B)) := by
  have hN := bN_le h.v
  have hS := bSd_le (K := K)
  rw [en_X11_endCells, sg_X11_endCells_0]
  unfold ce
  rcases hx with q | ⟨q1, q2⟩
  · rw [if_pos (by rw [show (100 : Int32) = i32 100 from rfl, i32_lt (by omega) (by decide)]; omega), sp_Mbit, mm_aft_v, sg_X11_endCells_22, if_pos (by omega)]
  · rw [if_neg (by rw [show (100 : Int32) = i32 100 from rfl, i32_lt (by omega) (by decide)]; omega), show (100 : Int32) = i32 100 from rfl, i32_sub q1, if_pos ((i32_in (by omega)).2 (by omega)), i32_ix (by omega), h.sd _ (by omega), sg_X11_endCells_22, if_neg (by omega)]
theorem sp_Mlinks (h : MB K R C I A B) {one oth : Nat} (h1 : okE K R C one) (h2 : okE K R C oth) {w : Int64} (hw : ∀ c, mb w c = true → c < bN K R C) : f_X11_links [.ref 39, .long w, .int (i32 one), .int (i32 oth)] (k + 64, e, (mm_RM r), I, J, A, B) = some (.inl (some (.int (bi (pdec (TW K R C w one oth))))), (k + 64, e, (mm_RM r), I, J, A, B)) := by
  have hn : bN K R C ≤ 64 := by have := bN_le h.v; omega
  have cl : ∀ l : Int64, (∀ c, mb l c = true → mb w c = true) → ∀ c, mb (rcB K R C l w) c = true ↔ Conn (bN K R C) (bNb K R C) l w c := fun l _ c => mb_rch hn _ _ _ c
  have L : ∀ (f : Nat) (l : Int64) (o8 o9 : Option Value), cf (mb l) (bN K R C) ≤ f → (∀ c, mb l c = true → mb w c = true) → mm_run (mm_pr tb_X11_links) (12, [some (.ref 39), some (.long w), none, some (.int (i32 one)), some (.int (i32 oth)), some (.long l), none, some (.int (i32 0)), o8, o9], [], (k + 64, e, (mm_RM r), I, J, A, B)) = some (.inl (some (.int (bi (pdec (∃ c, Conn (bN K R C) (bNb K R C) l w c ∧ mb (ce K R C oth) c = true))))), (k + 64, e, (mm_RM r), I, J, A, B)) := by
    intro f
    induction f with
    | zero =>
      intro l o8 o9 hf hl
      have l0 : l = 0 := mb_ext (fun c _ => by
        rw [mb_zero]
        exact bool_f (fun z => by have := cf_one (p := mb l) (hw c (hl c z)) z; omega))
      have hp : pdec (∃ c, Conn (bN K R C) (bNb K R C) l w c ∧ mb (ce K R C oth) c = true) = false := bool_f (fun y => by
        obtain ⟨c, c1, _⟩ := pdec_t.1 y
        exact c1.ind (P := fun _ => False) (fun d _ d2 _ => by rw [l0, mb_zero] at d2; cases d2) (fun _ _ _ _ p _ _ => p))
      rw [sg_X11_links_12, if_pos l0, sg_X11_links_72, if_pos (show i32 0 = 0 ∨ i32 0 = 1 from Or.inl rfl), hp]
      rfl
    | succ f ih =>
      intro l o8 o9 hf hl
      by_cases l0 : l = 0
      · have hp : pdec (∃ c, Conn (bN K R C) (bNb K R C) l w c ∧ mb (ce K R C oth) c = true) = false := bool_f (fun y => by
          obtain ⟨c, c1, _⟩ := pdec_t.1 y
          exact c1.ind (P := fun _ => False) (fun d _ d2 _ => by rw [l0, mb_zero] at d2; cases d2) (fun _ _ _ _ p _ _ => p))
        rw [sg_X11_links_12, if_pos l0, sg_X11_links_72, if_pos (show i32 0 = 0 ∨ i32 0 = 1 from Or.inl rfl), hp]
        rfl
      · have lb := mlo_bit l0
        have lm := mlo_mb l0
        have l64 := mlo_lt l0
        have lw := hl _ lm
        have lN := hw _ lw
        rw [sg_X11_links_12, if_neg l0, if_pos (show i32 0 = 0 from rfl), sp_spreadsB k r e I J A B h _ _ (fun c _ c2 => hw c c2), mm_aft_v, sg_X11_links_35, sp_MendCells k r e I J A B h h2, mm_aft_v, sg_X11_links_45]
        generalize hG : rcB K R C (l &&& (-l)) w = G
        have gm : ∀ c, mb G c = true ↔ Conn (bN K R C) (bNb K R C) (mbit (mlo l)) w c := fun c => by rw [← hG, lb]; exact mb_rch hn _ _ _ c
        have low : mb G (mlo l) = true := (gm _).2 (Conn.base lN (by rw [mb_bit _ _ l64, decide_eq_true rfl]) lw)
        have gl : ∀ c, mb G c = true → Conn (bN K R C) (bNb K R C) l w c := fun c q => ((gm c).1 q).ind (fun d d1 d2 d3 => by
          rw [mb_bit _ _ l64, decide_eq_true_eq] at d2
          subst d2
          exact Conn.base d1 lm d3) (fun c d d1 _ p d2 d3 => p.step d1 d2 d3)
        by_cases q : G &&& ce K R C oth = 0
        · rw [if_pos q, sg_X11_links_56]
          have lt : cf (mb (l &&& (G ^^^ (-1)))) (bN K R C) < cf (mb l) (bN K R C) := cf_lt2 lN (by rw [mb_and, mb_cpl _ _ l64, low]; simp) lm (fun c hc => by rw [mb_and, Bool.and_eq_true] at hc; exact hc.1)
          refine Eq.trans (ih (l &&& (G ^^^ (-1))) _ _ (by omega) (fun c hc => by rw [mb_and, Bool.and_eq_true] at hc; exact hl c hc.1)) ?_
          have : pdec (∃ c, Conn (bN K R C) (bNb K R C) (l &&& (G ^^^ (-1))) w c ∧ mb (ce K R C oth) c = true) = pdec (∃ c, Conn (bN K R C) (bNb K R C) l w c ∧ mb (ce K R C oth) c = true) := by
            rw [Bool.eq_iff_iff, pdec_t, pdec_t]
            constructor
            · rintro ⟨c, c1, c2⟩
              refine ⟨c, c1.ind (fun d d1 d2 d3 => ?_) (fun _ _ d1 _ p d2 d3 => p.step d1 d2 d3), c2⟩
              rw [mb_and, Bool.and_eq_true] at d2
              exact Conn.base d1 d2.1 d3
            · rintro ⟨c, c1, c2⟩
              refine ⟨c, ?_, c2⟩
              have alt : mb G c = true ∨ Conn (bN K R C) (bNb K R C) (l &&& (G ^^^ (-1))) w c := c1.ind (P := fun c => mb G c = true ∨ Conn (bN K R C) (bNb K R C) (l &&& (G ^^^ (-1))) w c) (fun d d1 d2 d3 => by
                cases g : mb G d with
                | true => exact Or.inl rfl
                | false => exact Or.inr (Conn.base d1 (by rw [mb_and, d2, mb_cpl _ _ (by omega), g]; rfl) d3)) (fun x d d1 _ p d2 d3 => by
                rcases p with p | p
                · exact Or.inl ((gm d).2 (((gm x).1 p).step d1 d2 d3))
                · exact Or.inr (p.step d1 d2 d3))
              rcases alt with p | p
              · exfalso
                exact and_ne0.2 ⟨c, p, c2⟩ q
              · exact p
          rw [this]
        · rw [if_neg q, sg_X11_links_56, sg_X11_links_12]
          have hp : pdec (∃ c, Conn (bN K R C) (bNb K R C) l w c ∧ mb (ce K R C oth) c = true) = true := by
            obtain ⟨c, c1, c2⟩ := and_ne0.1 q
            exact pdec_t.2 ⟨c, gl c c1, c2⟩
          rw [hp, if_neg (show ¬ (1 : Int32) = 0 by decide), ite_self, sg_X11_links_72, if_pos (Or.inr rfl)]
          rfl
  rw [en_X11_links, sg_X11_links_0, sp_MendCells k r e I J A B h h1, mm_aft_v, sg_X11_links_5]
  refine Eq.trans (L (bN K R C) _ none none (cf_le _ _) (fun c hc => by rw [mb_and, Bool.and_eq_true] at hc; exact hc.2)) ?_
  have : pdec (∃ c, Conn (bN K R C) (bNb K R C) (ce K R C one &&& w) w c ∧ mb (ce K R C oth) c = true) = pdec (TW K R C w one oth) := by
    rw [Bool.eq_iff_iff, pdec_t, pdec_t]
    unfold TW
    rw [and_ne0]
    constructor
    · rintro ⟨c, c1, c2⟩
      refine ⟨c, (mb_rch hn _ _ _ c).2 (c1.ind (fun d d1 d2 d3 => ?_) (fun _ _ d1 _ p d2 d3 => p.step d1 d2 d3)), c2⟩
      rw [mb_and, Bool.and_eq_true] at d2
      exact Conn.base d1 d2.1 d3
    · rintro ⟨c, c1, c2⟩
      refine ⟨c, ((mb_rch hn _ _ _ c).1 c1).ind (fun d d1 d2 d3 => Conn.base d1 (by rw [mb_and, d2, d3]; rfl) d3) (fun _ _ d1 _ p d2 d3 => p.step d1 d2 d3), c2⟩
  rw [this]
theorem sp_Mcode {n : Nat} (hn : n ≤ 9) (h21 : I 39 21 = i32 n) (hT : ∀ j, j < 10 → A 51 j = i32 (3 ^ j)) {a b : Nat} (ha : a < 512) (hb : b < 512) (hd : a &&& b = 0) : f_X11_code [.ref 39, .int (i32 a), .int (i32 b)] (k + 64, e, (mm_RM r), I, J, A, B) = some (.inl (some (.int (i32 (cs n a b)))), (k + 64, e, (mm_RM r), I, J, A, B)) := by
  have L : ∀ dd j, j + dd = n → mm_run (mm_pr tb_X11_code) (5, [some (.ref 39), some (.int (i32 a)), some (.int (i32 b)), some (.int (i32 (cs j a b))), some (.int (i32 j))], [], (k + 64, e, (mm_RM r), I, J, A, B)) = some (.inl (some (.int (i32 (cs n a b)))), (k + 64, e, (mm_RM r), I, J, A, B)) := by
    intro dd
    induction dd with
    | zero =>
      intro j hj
      rw [sg_X11_code_5, h21, if_neg (by rw [i32_lt (by omega) (by omega)]; omega), show j = n by omega]
    | succ dd ih =>
      intro j hj
      have un : cs (j + 1) a b = cs j a b + ((a.testBit j).toNat + 2 * (b.testBit j).toNat) * 3 ^ j := rfl
      rw [← ih (j + 1) (by omega), un, sg_X11_code_5, h21, if_pos (by rw [i32_lt (by omega) (by omega)]; omega), if_pos ((i32_in (by omega)).2 (by omega)), if_pos ((i32_in (by omega)).2 (by omega)), i32_ix (by omega), hT j (by omega)]
      simp only [i32_l]
      rw [shr_bit ha (by omega), shr_bit hb (by omega)]
      have b1 : (if a.testBit j = true then i32 1 else i32 0) = i32 (a.testBit j).toNat := by cases a.testBit j <;> rfl
      have b2 : (if b.testBit j = true then i32 1 else i32 0) = i32 (b.testBit j).toNat := by cases b.testBit j <;> rfl
      rw [b1, b2, i32_mul, i32_mul, i32_mul, i32_add, i32_add, i32_add]
      have e1 : (a.testBit j).toNat * 3 ^ j + (b.testBit j).toNat * 2 * 3 ^ j = ((a.testBit j).toNat + 2 * (b.testBit j).toNat) * 3 ^ j := by rw [Nat.add_mul, Nat.mul_comm (b.testBit j).toNat 2]
      rw [e1]
  rw [en_X11_code, sg_X11_code_0]
  exact L n 0 (by omega)
theorem sp_Mlinked {E : Int64} (h : MB K R C I A B) (hG : GM E I A) (hEN : ∀ c, mb E c = true → c < bN K R C) {p a one oth : Nat} (hp : p < 2) (ha : a < 512) (hs : ∀ c, mb (B 45 p) c = true → c < bN K R C) (h1 : okE K R C one) (h2 : okE K R C oth) : f_X11_linked [.ref 39, .int (i32 p), .int (i32 a), .int (i32 one), .int (i32 oth)] (k + 64, e, (mm_RM r), I, J, A, B) = some (.inl (some (.int (i32 (if pdec (TT K R C E (B 45 p) one oth a) = true then 3 else 0)))), (k + 64, e, (mm_RM r), I, J, A, B)) := by
  obtain ⟨g0, g1, g2⟩ := hG
  have L : ∀ dd j, j + dd = gn E → mm_run (mm_pr tb_X11_linked) (11, [some (.ref 39), some (.int (i32 p)), some (.int (i32 a)), some (.int (i32 one)), some (.int (i32 oth)), some (.long (B 45 p ||| spr E a j)), none, some (.int (i32 j))], [], (k + 64, e, (mm_RM r), I, J, A, B)) = some (.inl (some (.int (i32 (if pdec (TT K R C E (B 45 p) one oth a) = true then 3 else 0)))), (k + 64, e, (mm_RM r), I, J, A, B)) := by
    intro dd
    induction dd with
    | zero =>
      intro j hj
      have jn : j = gn E := by omega
      have hw : ∀ c, mb (B 45 p ||| spr E a (gn E)) c = true → c < bN K R C := fun c hc => by
        rw [mb_or, Bool.or_eq_true] at hc
        rcases hc with q | q
        · exact hs c q
        · exact hEN c (spr_mem.1 q).2.1
      rw [sg_X11_linked_11, g1, if_neg (by rw [i32_lt (by omega) (by omega)]; omega), jn, sp_Mlinks k r e I J A B h h1 h2 hw, mm_aft_v, sg_X11_linked_64]
      show (if bi (pdec (TT K R C E (B 45 p) one oth a)) = 0 then _ else _) = _
      cases pdec (TT K R C E (B 45 p) one oth a) with
      | true => rw [if_neg (show ¬ bi true = 0 by decide), sg_X11_linked_72]; rfl
      | false => rw [if_pos (show bi false = 0 from rfl), sg_X11_linked_72]; rfl
    | succ dd ih =>
      intro j hj
      have un : spr E a (j + 1) = spr E a j ||| (if a.testBit j = true then mbit (gc E j) else 0) := rfl
      rw [← ih (j + 1) (by omega), un, sg_X11_linked_11, g1, if_pos (by rw [i32_lt (by omega) (by omega)]; omega)]
      simp only [i32_l]
      rw [shr_bit ha (by omega)]
      cases q : a.testBit j with
      | true => simp (disch := omega) only [i32_l, iN_l, i32_add, i32_mul, i32_r0, i32_r1, run_bi, run_bi', i32_sub, decide_eq_true_eq, bi_rt, bi_em, bi_0, bi_1, i32_lt, i32_eq, iN_ne, iN_lt, iN_nlt, i32_ix, i32_in,  mm_aft_v, mm_aft_n, mm_aft_x, if_pos, if_neg, ite_true, ite_false, if_true, if_false, not_false_eq_true, not_true_eq_false, g2 j (by omega), sp_Mbit, sg_X11_linked_42, sg_X11_linked_46, or_assoc64]
      | false => simp (disch := omega) only [i32_l, iN_l, i32_add, i32_mul, i32_r0, i32_r1, run_bi, run_bi', i32_sub, decide_eq_true_eq, bi_rt, bi_em, bi_0, bi_1, i32_lt, i32_eq, iN_ne, iN_lt, iN_nlt, i32_ix, i32_in,  mm_aft_v, mm_aft_n, mm_aft_x, if_pos, if_neg, ite_true, ite_false, if_true, if_false, not_false_eq_true, not_true_eq_false, sg_X11_linked_46, Bool.false_eq_true, or_assoc64, or_zero64]
  have b0 : B 45 p = B 45 p ||| spr E a 0 := by
    show _ = B 45 p ||| 0
    rw [or_zero64]
  rw [en_X11_linked, sg_X11_linked_0, if_pos ((i32_in (by omega)).2 (by omega)), i32_ix (by omega)]
  have L0 := L (gn E) 0 (by omega)
  rw [← b0] at L0
  exact L0
end
