/-! links in the reference: calls -/
section
variable {K R C : Nat} {lg : Nat → Nat} {m : Nat} {sw : Bool} (k : Nat) (r : Nat → Nat → Value) (e : Nat) (I : Nat → Nat → Int32) (J : Nat → Nat → Int64) (B : Nat → Nat → Int64)
def FnC (T : Nat → Prop) (n : Nat) (x : Int32) : Prop := (x = iN ∧ ∀ s, s < 2 ^ n → ¬ LH T n 0 s) ∨ (∃ c, MinC T n c ∧ x = i32 c)
theorem sp_MfindsCarrier (A : Nat → Nat → Int32) (h : MG K R C lg m sw I A B) (w : WG K R C lg m sw) (hg : gn (emp (bN K R C) (sN lg m sw 0) (sN lg m sw 1)) ≤ 9) {p one oth : Nat} (hp : p < 2) (h1 : okE K R C one) (h2 : okE K R C oth) : ∃ A' x, f_X11_findsCarrier [.ref 39, .int (i32 p), .int (i32 one), .int (i32 oth)] (k + 64, e, (mm_RM r), I, J, A, B) = some (.inl (some (.int x)), (k + 64, e, (mm_RM r), mm_up I 39 21 (i32 (gn (emp (bN K R C) (sN lg m sw 0) (sN lg m sw 1)))), J, A', B)) ∧ FnC (TT K R C (emp (bN K R C) (sN lg m sw 0) (sN lg m sw 1)) (sN lg m sw p) one oth) (gn (emp (bN K R C) (sN lg m sw 0) (sN lg m sw 1))) x ∧ (∀ rs t, rs < 2 ^ gn (emp (bN K R C) (sN lg m sw 0) (sN lg m sw 1)) → t < 2 ^ gn (emp (bN K R C) (sN lg m sw 0) (sN lg m sw 1)) → rs &&& t = 0 → VLk (TT K R C (emp (bN K R C) (sN lg m sw 0) (sN lg m sw 1)) (sN lg m sw p) one oth) (gn (emp (bN K R C) (sN lg m sw 0) (sN lg m sw 1))) A' rs t) ∧ (∀ k, k < gn (emp (bN K R C) (sN lg m sw 0) (sN lg m sw 1)) → A' 50 k = i32 (gc (emp (bN K R C) (sN lg m sw 0) (sN lg m sw 1)) k)) ∧ (∀ i, i ≠ 50 → i ≠ 52 → A' i = A i) := by
  obtain ⟨A1, f1, f2, f3, f4⟩ := sp_MfindsLinks k r e I J B A h w hg hp h1 h2
  generalize emp (bN K R C) (sN lg m sw 0) (sN lg m sw 1) = E at hg f1 f2 f3 ⊢
  have p9 := p512 hg
  have p3 := p3le hg
  obtain ⟨T, hTd⟩ : ∃ T, T = TT K R C E (sN lg m sw p) one oth := ⟨_, rfl⟩
  rw [← hTd] at f2 ⊢
  obtain ⟨I1, hI1⟩ : ∃ I1, I1 = mm_up I 39 21 (i32 (gn E)) := ⟨_, rfl⟩
  have h21 : I1 39 21 = i32 (gn E) := by rw [hI1, mm_up_eq]
  have hT' : ∀ j, j < 10 → A1 51 j = i32 (3 ^ j) := fun j hj => by rw [f4 51 (by decide) (by decide)]; exact h.2.2.2.2 j hj
  have pl : ∀ s, pop (gn E) s ≤ gn E := fun s => cf_le _ _
  have L : ∀ (dd s : Nat) (x : Int32) (o6 : Option Value), s + dd = 2 ^ gn E → ((x = iN ∧ ∀ u, u < s → ¬ LH T (gn E) 0 u) ∨ (∃ c, x = i32 c ∧ c < s ∧ LH T (gn E) 0 c ∧ ∀ u, u < s → LH T (gn E) 0 u → (pop (gn E) c < pop (gn E) u ∨ (pop (gn E) c = pop (gn E) u ∧ c ≤ u)))) → ∃ x', mm_run (mm_pr tb_X11_findsCarrier) (13, [some (.ref 39), some (.int (i32 p)), some (.int (i32 one)), some (.int (i32 oth)), some (.int x), some (.int (i32 s)), o6], [], (k + 64, e, (mm_RM r), I1, J, A1, B)) = some (.inl (some (.int x')), (k + 64, e, (mm_RM r), I1, J, A1, B)) ∧ FnC T (gn E) x' := by
    intro dd
    induction dd with
    | zero =>
      intro s x o6 hs hx
      have sn : s = 2 ^ gn E := by omega
      refine ⟨x, ?_, ?_⟩
      · rw [sg_X11_findsCarrier_13, h21]
        simp only [i32_l]
        rw [i32_shl (by omega), if_neg (by rw [i32_lt (by omega) (by omega)]; omega)]
      · rw [sn] at hx
        rcases hx with q | ⟨c, c1, c2, c3, c4⟩
        · exact Or.inl q
        · exact Or.inr ⟨c, ⟨c2, c3, c4⟩, c1⟩
    | succ dd ih =>
      intro s x o6 hs hx
      have z0 : s &&& 0 = 0 := Nat.and_zero _
      have cl := cs_lt z0 (gn E)
      have vv := f2 s 0 (by omega) (by omega) z0
      unfold VLk at vv
      have vb := vl_lt T (gn E) 0 s
      have keep : ∀ o6 : Option Value, ((x = iN ∧ ∀ u, u < s + 1 → ¬ LH T (gn E) 0 u) ∨ (∃ c, x = i32 c ∧ c < s + 1 ∧ LH T (gn E) 0 c ∧ ∀ u, u < s + 1 → LH T (gn E) 0 u → (pop (gn E) c < pop (gn E) u ∨ (pop (gn E) c = pop (gn E) u ∧ c ≤ u)))) → ∀ y : Int32, ∃ x', mm_run (mm_pr tb_X11_findsCarrier) (78, [some (.ref 39), some (.int (i32 p)), some (.int (i32 one)), some (.int (i32 oth)), some (.int x), some (.int (i32 s)), some (.int y)], [], (k + 64, e, (mm_RM r), I1, J, A1, B)) = some (.inl (some (.int x')), (k + 64, e, (mm_RM r), I1, J, A1, B)) ∧ FnC T (gn E) x' := by
        intro o6 hx' y
        rw [sg_X11_findsCarrier_78, sg_X11_findsCarrier_80]
        simp only [i32_l]
        rw [i32_add]
        exact ih (s + 1) x _ (by omega) hx'
      have take : ∀ y : Int32, LH T (gn E) 0 s → (∀ u, u < s → LH T (gn E) 0 u → pop (gn E) s < pop (gn E) u) → ∃ x', mm_run (mm_pr tb_X11_findsCarrier) (73, [some (.ref 39), some (.int (i32 p)), some (.int (i32 one)), some (.int (i32 oth)), some (.int x), some (.int (i32 s)), some (.int y)], [], (k + 64, e, (mm_RM r), I1, J, A1, B)) = some (.inl (some (.int x')), (k + 64, e, (mm_RM r), I1, J, A1, B)) ∧ FnC T (gn E) x' := by
        intro y q1 q2
        rw [sg_X11_findsCarrier_73, sg_X11_findsCarrier_80]
        simp only [i32_l]
        rw [i32_add]
        refine ih (s + 1) (i32 s) _ (by omega) (Or.inr ⟨s, rfl, by omega, q1, fun u u1 u2 => ?_⟩)
        by_cases q : u = s
        · subst q; exact Or.inr ⟨rfl, Nat.le_refl _⟩
        · exact Or.inl (q2 u (by omega) u2)
      rw [sg_X11_findsCarrier_13, h21]
      simp only [i32_l]
      rw [i32_shl (by omega), if_pos (by rw [i32_lt (by omega) (by omega)]; omega), sp_Mcode k r e I1 J A1 B hg h21 hT' (by omega) (by omega) z0, mm_aft_v, sg_X11_findsCarrier_35, if_pos ((i32_in (by omega)).2 (by omega)), i32_ix (by omega), vv]
      simp only [i32_l]
      rw [i32_mod2 (by omega)]
      by_cases q : LH T (gn E) 0 s
      · rw [(vl_1 _ _ _ _).2 q, if_pos rfl, sg_X11_findsCarrier_47, if_neg (show ¬ i32 1 = 0 by decide)]
        rcases hx with ⟨x1, x2⟩ | ⟨c, c1, c2, c3, c4⟩
        · rw [if_pos (show x = (-1 : Int32) from x1)]
          exact take _ q (fun u u1 u2 => absurd u2 (x2 u u1))
        · have nx : ¬ x = (-1 : Int32) := fun z => by
            rw [c1] at z
            exact (iN_ne (a := c) (by omega)).1 z
          have pls := pl s
          have plc := pl c
          rw [if_neg nx, sp_Msize _ hg (show s < 2 ^ gn E by omega), mm_aft_v, sg_X11_findsCarrier_65, c1, sp_Msize _ hg (show c < 2 ^ gn E by omega), mm_aft_v, sg_X11_findsCarrier_70, ← c1]
          by_cases q2 : pop (gn E) s < pop (gn E) c
          · rw [if_pos (by rw [i32_lt (by omega) (by omega)]; exact q2)]
            exact take _ q (fun u u1 u2 => by have := c4 u u1 u2; omega)
          · rw [if_neg (by rw [i32_lt (by omega) (by omega)]; exact q2)]
            refine keep none (Or.inr ⟨c, c1, by omega, c3, fun u u1 u2 => ?_⟩) _
            by_cases y : u = s
            · subst y; omega
            · exact c4 u (by omega) u2
      · have q0 : vl T (gn E) 0 s % 2 = 0 := by
          have := mt (vl_1 T (gn E) 0 s).1 q
          omega
        rw [q0, if_neg (by decide), sg_X11_findsCarrier_47, if_pos (show i32 0 = 0 from rfl)]
        refine keep none ?_ _
        rcases hx with ⟨x1, x2⟩ | ⟨c, c1, c2, c3, c4⟩
        · refine Or.inl ⟨x1, fun u u1 => ?_⟩
          by_cases y : u = s
          · subst y; exact q
          · exact x2 u (by omega)
        · refine Or.inr ⟨c, c1, by omega, c3, fun u u1 u2 => ?_⟩
          by_cases y : u = s
          · subst y; exact absurd u2 q
          · exact c4 u (by omega) u2
  obtain ⟨x', l1, l2⟩ := L (2 ^ gn E) 0 iN none (by omega) (Or.inl ⟨rfl, fun u hu => absurd hu (Nat.not_lt_zero _)⟩)
  refine ⟨A1, x', ?_, l2, f2, f3, f4⟩
  rw [en_X11_findsCarrier, sg_X11_findsCarrier_0, f1, mm_aft_n, sg_X11_findsCarrier_7, ← hI1]
  exact l1
theorem sp_MisCellP (A : Nat → Nat → Int32) (h : MB K R C I A B) (x : Int32) : f_X11_isCell [.ref 39, .int x] (k + 64, e, (mm_RM r), I, J, A, B) = some (.inl (some (.int (bi (cellP (bN K R C) x)))), (k + 64, e, (mm_RM r), I, J, A, B)) := by
  have hp := bN_pos h.v
  rw [sp_MisCell, h.cells, cellP_M (by omega) (bN_le h.v)]
theorem sp_MisThere (A : Nat → Nat → Int32) (h : MB K R C I A B) (x : Int32) : f_X11_isThere [.ref 39, .int x] (k + 64, e, (mm_RM r), I, J, A, B) = some (.inl (some (.int (bi (endP (bN K R C) (bSd K) x)))), (k + 64, e, (mm_RM r), I, J, A, B)) := by
  have hk := bV_K h.v
  have hS := bSd_le (K := K)
  have hS1 : 1 ≤ bSd K := by unfold bSd; cases Nat.beq K 0 <;> cases Nat.beq K 1 <;> decide
  rw [en_X11_isThere, sg_X11_isThere_0, sp_MisCellP k r e I J B A h, mm_aft_v, sg_X11_isThere_5]
  unfold endP
  cases hc : cellP (bN K R C) x with
  | true =>
    rw [if_neg (show ¬ bi true = 0 by decide), sg_X11_isThere_26, sg_X11_isThere_31, if_pos (Or.inr rfl)]
    rfl
  | false =>
    rw [if_pos (show bi false = 0 from rfl), sp_Msides k r e I J A B hk.1 h.kind, mm_aft_v, sg_X11_isThere_17, Bool.false_or]
    simp only [i32_l]
    rw [i32_add, i32_sub (by omega), sp_Min, mm_aft_v, sg_X11_isThere_23]
    have e1 : decide (i32 (100 + bSd K - 1) < x) = !decide (x < i32 (100 + bSd K)) := by
      rcases i32_cases x with q | ⟨c, c1, c2⟩
      · have a1 : x < i32 (100 + bSd K) := by
          rw [Int32.lt_iff_toInt_lt, i32_toInt (by omega)]
          rw [Int32.lt_iff_toInt_lt, i32_toInt (by decide)] at q
          omega
        have a2 : ¬ i32 (100 + bSd K - 1) < x := by
          rw [Int32.lt_iff_toInt_lt, i32_toInt (by omega)]
          rw [Int32.lt_iff_toInt_lt, i32_toInt (by decide)] at q
          omega
        rw [decide_eq_true a1, decide_eq_false a2]; rfl
      · subst c2
        rw [show decide (i32 (100 + bSd K - 1) < i32 c) = decide (100 + bSd K - 1 < c) by rw [decide_eq_decide, i32_lt (by omega) c1], show decide (i32 c < i32 (100 + bSd K)) = decide (c < 100 + bSd K) by rw [decide_eq_decide, i32_lt c1 (by omega)]]
        by_cases q : c < 100 + bSd K
        · rw [decide_eq_true q, decide_eq_false (by omega)]; rfl
        · rw [decide_eq_false q, decide_eq_true (by omega)]; rfl
    rw [e1, Bool.not_not]
    cases (!decide (x < i32 100) && decide (x < i32 (100 + bSd K))) with
    | true => rw [if_neg (show ¬ bi true = 0 by decide), sg_X11_isThere_26, sg_X11_isThere_31, if_pos (Or.inr rfl)]; rfl
    | false => rw [if_pos (show bi false = 0 from rfl), sg_X11_isThere_31, if_pos (Or.inl rfl)]; rfl
theorem MG.st {A : Nat → Nat → Int32} (h : MG K R C lg m sw I A B) {p : Nat} (hp : p < 2) : B 45 p = sN lg m sw p := by
  have t : p = 0 ∨ p = 1 := by omega
  rcases t with q | q
  · subst q; exact h.2.2.1
  · subst q; exact h.2.2.2.1
theorem sp_MisEnd (A : Nat → Nat → Int32) (h : MG K R C lg m sw I A B) {p c : Nat} (hp : p < 2) (hc : c < 104) (ok : okE K R C c) : f_X11_isEnd [.ref 39, .int (i32 p), .int (i32 c)] (k + 64, e, (mm_RM r), I, J, A, B) = some (.inl (some (.int (bi (isE (sN lg m sw p) (i32 c))))), (k + 64, e, (mm_RM r), I, J, A, B)) := by
  have hN := bN_le h.1.v
  rw [isE_i hc, en_X11_isEnd, sg_X11_isEnd_0]
  by_cases q : c < 100
  · have c36 : c < 64 := by rcases ok with o | o <;> omega
    rw [if_pos (by rw [show (100 : Int32) = i32 100 from rfl, i32_lt (by omega) (by decide)]; exact q), if_pos ((i32_in (by omega)).2 (by omega)), i32_ix (by omega), MG.st I B h hp, sp_Mhas _ _ c36, mm_aft_v, sg_X11_isEnd_16, decide_eq_false (by omega), Bool.false_or]
    cases mb (sN lg m sw p) c with
    | true => rw [if_neg (show ¬ bi true = 0 by decide), sg_X11_isEnd_19, sg_X11_isEnd_24, if_pos (Or.inr rfl)]; rfl
    | false => rw [if_pos (show bi false = 0 from rfl), sg_X11_isEnd_24, if_pos (Or.inl rfl)]; rfl
  · rw [if_neg (by rw [show (100 : Int32) = i32 100 from rfl, i32_lt (by omega) (by decide)]; exact q), sg_X11_isEnd_19, sg_X11_isEnd_24, if_pos (Or.inr rfl), decide_eq_true (by omega)]
    rfl
theorem sp_MasksLink (A : Nat → Nat → Int32) (h : MG K R C lg m sw I A B) (p one oth : Int32) (ex : Bool) : ∃ I', f_X11_asksLink [.ref 39, .int p, .int one, .int oth, .int (bi ex)] (k + 64, e, (mm_RM r), I, J, A, B) = some (.inl (some (.int (bi (decide (lkC K R C lg m sw ex p one oth = 0))))), (k + 64, e, (mm_RM r), I', J, A, B)) ∧ I' 39 39 = i32 (lkC K R C lg m sw ex p one oth) ∧ FM I I' J J A A B B := by
  have hN := bN_le h.1.v
  have fm1 := FM.th I J A B (i32 1)
  have fm0 := FM.th I J A B (i32 0)
  have bad : (plaP p && endP (bN K R C) (bSd K) one && endP (bN K R C) (bSd K) oth && ex) = false → ∃ I', mm_run (mm_pr tb_X11_asksLink) (33, [some (.ref 39), some (.int p), some (.int one), some (.int oth), some (.int (bi ex))], [.ref 39], (k + 64, e, (mm_RM r), I, J, A, B)) = some (.inl (some (.int (bi (decide (lkC K R C lg m sw ex p one oth = 0))))), (k + 64, e, (mm_RM r), I', J, A, B)) ∧ I' 39 39 = i32 (lkC K R C lg m sw ex p one oth) ∧ FM I I' J J A A B B := by
    intro q
    have l1 : lkC K R C lg m sw ex p one oth = 1 := by unfold lkC; rw [if_pos q]
    rw [l1]
    refine ⟨mm_up I 39 39 (i32 1), ?_, mm_up_eq _ _ _ _, fm1⟩
    rw [sg_X11_asksLink_33, sg_X11_asksLink_34]
    show mm_aft _ 37 _ _ (f_X11_asks [.ref 39, .int (bi false)] _) = _
    rw [sp_Masks, mm_aft_v, sg_X11_asksLink_37, if_pos (show bi false = 0 from rfl)]
    rfl
  rw [en_X11_asksLink, sg_X11_asksLink_0, sp_MisPlayer, plaP_M, mm_aft_v, sg_X11_asksLink_5]
  cases g1 : plaP p with
  | false => rw [if_pos (show bi false = 0 from rfl)]; exact bad (by rw [g1]; rfl)
  | true =>
    rw [if_neg (show ¬ bi true = 0 by decide), sp_MisThere k r e I J B A h.1, mm_aft_v, sg_X11_asksLink_13]
    cases g2 : endP (bN K R C) (bSd K) one with
    | false => rw [if_pos (show bi false = 0 from rfl)]; exact bad (by rw [g1, g2]; rfl)
    | true =>
      rw [if_neg (show ¬ bi true = 0 by decide), sp_MisThere k r e I J B A h.1, mm_aft_v, sg_X11_asksLink_21]
      cases g3 : endP (bN K R C) (bSd K) oth with
      | false => rw [if_pos (show bi false = 0 from rfl)]; exact bad (by rw [g1, g2, g3]; rfl)
      | true =>
        rw [if_neg (show ¬ bi true = 0 by decide)]
        cases g4 : ex with
        | false =>
          rw [if_pos (show bi false = 0 from rfl)]
          rw [g4] at bad
          exact bad (by rw [g1, g2, g3]; rfl)
        | true =>
          clear bad
          rw [if_neg (show ¬ bi true = 0 by decide), sg_X11_asksLink_34]
          show ∃ I', mm_aft _ 37 _ _ (f_X11_asks [.ref 39, .int (bi true)] _) = _ ∧ _
          rw [sp_Masks, mm_aft_v, sg_X11_asksLink_37, if_neg (show ¬ bi true = 0 by decide), show bi (!true) = i32 0 from rfl]
          have h2 := h.fr fm0
          obtain ⟨pp, p1, p2⟩ := plaP_ex g1
          obtain ⟨c1, a1, a2, a3⟩ := endP_ex hN g2
          obtain ⟨c2, b1, b2, b3⟩ := endP_ex hN g3
          have red : lkC K R C lg m sw true p one oth = if one = oth ∨ isE (sN lg m sw p.toInt.toNat) one = false ∨ isE (sN lg m sw p.toInt.toNat) oth = false then 2 else if gn (emp (bN K R C) (sN lg m sw 0) (sN lg m sw 1)) ≤ 9 then 0 else 3 := by
            unfold lkC
            rw [g1, g2, g3, if_neg (by decide)]
          rw [red]
          subst p2; subst a2; subst b2
          rw [i32_ix (by omega)]
          have two : (∃ I', mm_run (mm_pr tb_X11_asksLink) (65, [some (.ref 39), some (.int (i32 pp)), some (.int (i32 c1)), some (.int (i32 c2)), some (.int (bi true))], [], (k + 64, e, (mm_RM r), mm_up I 39 39 (i32 0), J, A, B)) = some (.inl (some (.int (bi (decide ((2 : Nat) = 0))))), (k + 64, e, (mm_RM r), I', J, A, B)) ∧ I' 39 39 = i32 2 ∧ FM I I' J J A A B B) := by
            refine ⟨mm_up (mm_up I 39 39 (i32 0)) 39 39 (i32 2), ?_, mm_up_eq _ _ _ _, fm0.tr (FM.th _ J A B (i32 2))⟩
            rw [sg_X11_asksLink_65]
            rfl
          by_cases q : i32 c1 = i32 c2
          · rw [if_pos q, if_pos (Or.inl q)]; exact two
          · rw [if_neg q, sp_MisEnd k r e _ J B A h2 p1 a3 a1, mm_aft_v, sg_X11_asksLink_53]
            cases y1 : isE (sN lg m sw pp) (i32 c1) with
            | false => rw [if_pos (show bi false = 0 from rfl), if_pos (Or.inr (Or.inl rfl))]; exact two
            | true =>
              rw [if_neg (show ¬ bi true = 0 by decide), sp_MisEnd k r e _ J B A h2 p1 b3 b1, mm_aft_v, sg_X11_asksLink_62]
              cases y2 : isE (sN lg m sw pp) (i32 c2) with
              | false => rw [if_pos (show bi false = 0 from rfl), if_pos (Or.inr (Or.inr rfl))]; exact two
              | true =>
                have gl : gn (emp (bN K R C) (sN lg m sw 0) (sN lg m sw 1)) ≤ 36 := cf_le _ _
                rw [if_neg (show ¬ bi true = 0 by decide), if_neg (show ¬ (i32 c1 = i32 c2 ∨ true = false ∨ true = false) from fun z => z.elim q (fun y => y.elim (fun w => Bool.noConfusion w) (fun w => Bool.noConfusion w))), sp_MemptyG k r e _ J A B h2, mm_aft_v, sg_X11_asksLink_77, sp_Mones, mm_aft_v, sg_X11_asksLink_80, mcf_emp hN]
                by_cases g : gn (emp (bN K R C) (sN lg m sw 0) (sN lg m sw 1)) ≤ 9
                · rw [if_pos g, if_neg (by rw [show (9 : Int32) = i32 9 from rfl, i32_lt (by decide) (by omega)]; omega), sg_X11_asksLink_90, if_pos (show (0 : Int32) = 0 from rfl), sg_X11_asksLink_105, if_pos (Or.inr rfl)]
                  refine ⟨mm_up (mm_up I 39 39 (i32 0)) 39 39 (i32 0), rfl, mm_up_eq _ _ _ _, fm0.tr (FM.th _ J A B (i32 0))⟩
                · rw [if_neg g, if_pos (by rw [show (9 : Int32) = i32 9 from rfl, i32_lt (by decide) (by omega)]; omega), sg_X11_asksLink_90, if_neg (show ¬ (3 : Int32) = 0 by decide), sg_X11_asksLink_105, if_pos (Or.inl rfl)]
                  refine ⟨mm_up (mm_up I 39 39 (i32 0)) 39 39 (i32 3), rfl, mm_up_eq _ _ _ _, fm0.tr (FM.th _ J A B (i32 3))⟩
theorem cM_carrier_no (A : Nat → Nat → Int32) (h : MG K R C lg m sw I A B) {p one oth : Int32} (hc : lkC K R C lg m sw true p one oth ≠ 0) : ∃ I', f_X11_carrier [.ref 39, .int p, .int one, .int oth] (k + 64, e, (mm_RM r), I, J, A, B) = some (.inl (some (.long 0)), (k + 64, e, (mm_RM r), I', J, A, B)) ∧ I' 39 39 = i32 (lkC K R C lg m sw true p one oth) ∧ FM I I' J J A A B B := by
  obtain ⟨I', a1, a2, a3⟩ := sp_MasksLink k r e I J B A h p one oth true
  refine ⟨I', ?_, a2, a3⟩
  rw [en_X11_carrier, sg_X11_carrier_0]
  show mm_aft _ 8 _ _ (f_X11_asksLink [.ref 39, .int p, .int one, .int oth, .int (bi true)] _) = _
  rw [a1, mm_aft_v, sg_X11_carrier_8, decide_eq_false hc, if_pos (show bi false = 0 from rfl)]
theorem cM_answer_no (A : Nat → Nat → Int32) (h : MG K R C lg m sw I A B) {p one oth cl : Int32} (hc : lkC K R C lg m sw (cellP (bN K R C) cl) p one oth ≠ 0) : ∃ I', f_X11_answer [.ref 39, .int p, .int one, .int oth, .int cl] (k + 64, e, (mm_RM r), I, J, A, B) = some (.inl (some (.int (i32 0))), (k + 64, e, (mm_RM r), I', J, A, B)) ∧ I' 39 39 = i32 (lkC K R C lg m sw (cellP (bN K R C) cl) p one oth) ∧ FM I I' J J A A B B := by
  obtain ⟨I', a1, a2, a3⟩ := sp_MasksLink k r e I J B A h p one oth (cellP (bN K R C) cl)
  refine ⟨I', ?_, a2, a3⟩
  rw [en_X11_answer, sg_X11_answer_0, sp_MisCellP k r e I J B A h.1, mm_aft_v, sg_X11_answer_10, a1, mm_aft_v, sg_X11_answer_13, decide_eq_false hc, if_pos (show bi false = 0 from rfl)]
  rfl
theorem cM_carrier (A : Nat → Nat → Int32) (h : MG K R C lg m sw I A B) (w : WG K R C lg m sw) {p c1 c2 : Nat} (hp : p < 2) (o1 : okE K R C c1) (o2 : okE K R C c2) (hc : lkC K R C lg m sw true (i32 p) (i32 c1) (i32 c2) = 0) : ∃ I' A' v, f_X11_carrier [.ref 39, .int (i32 p), .int (i32 c1), .int (i32 c2)] (k + 64, e, (mm_RM r), I, J, A, B) = some (.inl (some (.long v)), (k + 64, e, (mm_RM r), I', J, A', B)) ∧ CarP K R C (emp (bN K R C) (sN lg m sw 0) (sN lg m sw 1)) (sN lg m sw p) c1 c2 v ∧ I' 39 39 = i32 0 ∧ FM I I' J J A A' B B := by
  have hg := (lkC_0 hc (bN_le w.1)).2.1
  obtain ⟨I1, a1, a2, a3⟩ := sp_MasksLink k r e I J B A h (i32 p) (i32 c1) (i32 c2) true
  rw [hc] at a1 a2
  have h2 := h.fr a3
  obtain ⟨A', x, f1, f2, f3, f4, f5⟩ := sp_MfindsCarrier k r e I1 J B A h2 w hg hp o1 o2
  have st : f_X11_carrier [.ref 39, .int (i32 p), .int (i32 c1), .int (i32 c2)] (k + 64, e, (mm_RM r), I, J, A, B) = mm_run (mm_pr tb_X11_carrier) (20, [some (.ref 39), some (.int (i32 p)), some (.int (i32 c1)), some (.int (i32 c2)), none, none, none, none], [.int x], (k + 64, e, (mm_RM r), mm_up I1 39 21 (i32 (gn (emp (bN K R C) (sN lg m sw 0) (sN lg m sw 1)))), J, A', B)) := by
    rw [en_X11_carrier, sg_X11_carrier_0]
    show mm_aft _ 8 _ _ (f_X11_asksLink [.ref 39, .int (i32 p), .int (i32 c1), .int (i32 c2), .int (bi true)] _) = _
    rw [a1, mm_aft_v, sg_X11_carrier_8, if_neg (by decide), f1, mm_aft_v]
  have fm : FM I (mm_up I1 39 21 (i32 (gn (emp (bN K R C) (sN lg m sw 0) (sN lg m sw 1))))) J J A A' B B := a3.tr (solves_fr I1 J A B rfl (fun i b1 b2 _ => f5 i b1 b2) (fun _ _ => rfl))
  have th : (mm_up I1 39 21 (i32 (gn (emp (bN K R C) (sN lg m sw 0) (sN lg m sw 1))))) 39 39 = i32 0 := by rw [mm_up_ne2 _ _ _ _ _ _ (by decide)]; exact a2
  rw [st]
  generalize hI2 : mm_up I1 39 21 (i32 (gn (emp (bN K R C) (sN lg m sw 0) (sN lg m sw 1)))) = I2 at fm th
  have h21 : I2 39 21 = i32 (gn (emp (bN K R C) (sN lg m sw 0) (sN lg m sw 1))) := by rw [← hI2, mm_up_eq]
  clear st f1 hI2
  generalize emp (bN K R C) (sN lg m sw 0) (sN lg m sw 1) = E at hg f2 f3 f4 h21 ⊢
  have p9 := p512 hg
  rw [sg_X11_carrier_20]
  rcases f2 with ⟨x1, x2⟩ | ⟨c, cm, x1⟩
  · refine ⟨I2, A', -1, ?_, Or.inl ⟨rfl, x2⟩, th, fm⟩
    rw [if_pos (show x = (-1 : Int32) from x1), sg_X11_carrier_35, sg_X11_carrier_40, if_pos (show x = (-1 : Int32) from x1), ite_self, sg_X11_carrier_91]
  · subst x1
    have cl := cm.1
    have nx : ¬ i32 c = (-1 : Int32) := fun z => (iN_ne (a := c) (by omega)).1 z
    refine ⟨I2, A', spr E c (gn E), ?_, Or.inr ⟨c, cm, rfl⟩, th, fm⟩
    have L : ∀ dd j, j + dd = gn E → mm_run (mm_pr tb_X11_carrier) (40, [some (.ref 39), some (.int (i32 p)), some (.int (i32 c1)), some (.int (i32 c2)), some (.int (i32 c)), some (.long (spr E c j)), none, some (.int (i32 j))], [], (k + 64, e, (mm_RM r), I2, J, A', B)) = some (.inl (some (.long (spr E c (gn E)))), (k + 64, e, (mm_RM r), I2, J, A', B)) := by
      intro dd
      induction dd with
      | zero =>
        intro j hj
        rw [sg_X11_carrier_40, h21, if_neg (by rw [i32_lt (by omega) (by omega)]; omega), sg_X11_carrier_91, show j = gn E by omega]
      | succ dd ih =>
        intro j hj
        have un : spr E c (j + 1) = spr E c j ||| (if c.testBit j = true then mbit (gc E j) else 0) := rfl
        rw [← ih (j + 1) (by omega), un, sg_X11_carrier_40, h21, if_pos (by rw [i32_lt (by omega) (by omega)]; omega), if_neg nx]
        simp only [i32_l]
        rw [shr_bit (by omega) (by omega)]
        cases q : c.testBit j with
        | true => simp (disch := omega) only [i32_l, iN_l, i32_add, i32_mul, i32_r0, i32_r1, run_bi, run_bi', i32_sub, decide_eq_true_eq, bi_rt, bi_em, bi_0, bi_1, i32_lt, i32_eq, iN_ne, iN_lt, iN_nlt, i32_ix, i32_in,  mm_aft_v, mm_aft_n, mm_aft_x, if_pos, if_neg, ite_true, ite_false, if_true, if_false, not_false_eq_true, not_true_eq_false, f4 j (by omega), sp_Mbit, sg_X11_carrier_78, sg_X11_carrier_82]
        | false => simp (disch := omega) only [i32_l, iN_l, i32_add, i32_mul, i32_r0, i32_r1, run_bi, run_bi', i32_sub, decide_eq_true_eq, bi_rt, bi_em, bi_0, bi_1, i32_lt, i32_eq, iN_ne, iN_lt, iN_nlt, i32_ix, i32_in,  mm_aft_v, mm_aft_n, mm_aft_x, if_pos, if_neg, ite_true, ite_false, if_true, if_false, not_false_eq_true, not_true_eq_false, sg_X11_carrier_82, Bool.false_eq_true]
    rw [if_neg nx, sg_X11_carrier_35]
    exact L (gn E) 0 (by omega)
theorem cM_answer (A : Nat → Nat → Int32) (h : MG K R C lg m sw I A B) (w : WG K R C lg m sw) {p c1 c2 cl : Nat} (hp : p < 2) (o1 : okE K R C c1) (o2 : okE K R C c2) (hcl : cl < bN K R C) (hc : lkC K R C lg m sw true (i32 p) (i32 c1) (i32 c2) = 0) : ∃ I' A' x, f_X11_answer [.ref 39, .int (i32 p), .int (i32 c1), .int (i32 c2), .int (i32 cl)] (k + 64, e, (mm_RM r), I, J, A, B) = some (.inl (some (.int x)), (k + 64, e, (mm_RM r), I', J, A', B)) ∧ AnwP K R C (emp (bN K R C) (sN lg m sw 0) (sN lg m sw 1)) (sN lg m sw p) c1 c2 cl x ∧ I' 39 39 = i32 0 ∧ FM I I' J J A A' B B := by
  have hN := bN_le w.1
  have hg := (lkC_0 hc hN).2.1
  have cp : cellP (bN K R C) (i32 cl) = true := by rw [cellP_i hN (by omega), decide_eq_true hcl]
  obtain ⟨I1, a1, a2, a3⟩ := sp_MasksLink k r e I J B A h (i32 p) (i32 c1) (i32 c2) true
  rw [hc] at a1 a2
  have h2 := h.fr a3
  obtain ⟨A', x, f1, f2, f3, f4, f5⟩ := sp_MfindsCarrier k r e I1 J B A h2 w hg hp o1 o2
  have st : f_X11_answer [.ref 39, .int (i32 p), .int (i32 c1), .int (i32 c2), .int (i32 cl)] (k + 64, e, (mm_RM r), I, J, A, B) = mm_run (mm_pr tb_X11_answer) (34, [some (.ref 39), some (.int (i32 p)), some (.int (i32 c1)), some (.int (i32 c2)), some (.int (i32 cl)), some (.int x), some (.int x), some (.int (i32 0)), none, none], [], (k + 64, e, (mm_RM r), mm_up I1 39 21 (i32 (gn (emp (bN K R C) (sN lg m sw 0) (sN lg m sw 1)))), J, A', B)) := by
    rw [en_X11_answer, sg_X11_answer_0, sp_MisCellP k r e I J B A h.1, cp, mm_aft_v, sg_X11_answer_10, a1, mm_aft_v, sg_X11_answer_13, if_neg (by decide), f1, mm_aft_v, sg_X11_answer_25]
    rfl
  have fm : FM I (mm_up I1 39 21 (i32 (gn (emp (bN K R C) (sN lg m sw 0) (sN lg m sw 1))))) J J A A' B B := a3.tr (solves_fr I1 J A B rfl (fun i b1 b2 _ => f5 i b1 b2) (fun _ _ => rfl))
  have th : (mm_up I1 39 21 (i32 (gn (emp (bN K R C) (sN lg m sw 0) (sN lg m sw 1))))) 39 39 = i32 0 := by rw [mm_up_ne2 _ _ _ _ _ _ (by decide)]; exact a2
  rw [st]
  generalize hI2 : mm_up I1 39 21 (i32 (gn (emp (bN K R C) (sN lg m sw 0) (sN lg m sw 1)))) = I2 at fm th
  have h21 : I2 39 21 = i32 (gn (emp (bN K R C) (sN lg m sw 0) (sN lg m sw 1))) := by rw [← hI2, mm_up_eq]
  have hT' : ∀ j, j < 10 → A' 51 j = i32 (3 ^ j) := fun j hj => by rw [f5 51 (by decide) (by decide)]; exact h.2.2.2.2 j hj
  clear st f1 hI2
  generalize emp (bN K R C) (sN lg m sw 0) (sN lg m sw 1) = E at hg f2 f3 f4 h21 ⊢
  have p9 := p512 hg
  have p3 := p3le hg
  have stop : ∀ (y : Int32) (s8 x9 : Int32) (o9 : Option Value), mm_run (mm_pr tb_X11_answer) (94, [some (.ref 39), some (.int (i32 p)), some (.int (i32 c1)), some (.int (i32 c2)), some (.int (i32 cl)), some (.int y), some (.int y), some (.int x9), some (.int s8), o9], [], (k + 64, e, (mm_RM r), I2, J, A', B)) = some (.inl (some (.int x9)), (k + 64, e, (mm_RM r), I2, J, A', B)) := by
    intro y s8 x9 o9
    rw [sg_X11_answer_94, if_pos (show y = y from rfl), ite_self, sg_X11_answer_177]
  rcases f2 with ⟨x1, x2⟩ | ⟨c, cm, x1⟩
  · refine ⟨I2, A', iN, ?_, Or.inl ⟨rfl, x2⟩, th, fm⟩
    have L : ∀ dd j, j + dd = gn E → mm_run (mm_pr tb_X11_answer) (34, [some (.ref 39), some (.int (i32 p)), some (.int (i32 c1)), some (.int (i32 c2)), some (.int (i32 cl)), some (.int x), some (.int x), some (.int (i32 j)), none, none], [], (k + 64, e, (mm_RM r), I2, J, A', B)) = some (.inl (some (.int iN)), (k + 64, e, (mm_RM r), I2, J, A', B)) := by
      intro dd
      induction dd with
      | zero =>
        intro j hj
        rw [sg_X11_answer_34, h21, if_neg (by rw [i32_lt (by omega) (by omega)]; omega)]
        exact stop x _ _ _
      | succ dd ih =>
        intro j hj
        rw [← ih (j + 1) (by omega), sg_X11_answer_34, h21, if_pos (by rw [i32_lt (by omega) (by omega)]; omega), if_pos (show x = (-1 : Int32) from x1), sg_X11_answer_73, sg_X11_answer_75]
        simp only [i32_l, i32_add]
    exact L (gn E) 0 (by omega)
  · subst x1
    have cl0 := cm.1
    have nx : ¬ i32 c = (-1 : Int32) := fun z => (iN_ne (a := c) (by omega)).1 z
    obtain ⟨hit, hhit⟩ : ∃ hit : Bool, hit = mb (spr E c (gn E)) cl := ⟨_, rfl⟩
    obtain ⟨jc, hjc⟩ : ∃ jc, jc = cf (mb E) cl := ⟨_, rfl⟩
    have first : ∀ (dd j : Nat), j + dd = gn E → mm_run (mm_pr tb_X11_answer) (34, [some (.ref 39), some (.int (i32 p)), some (.int (i32 c1)), some (.int (i32 c2)), some (.int (i32 cl)), some (.int (i32 c)), some (.int (i32 (if mb E cl = true ∧ jc < j then ndf c (2 ^ jc) else c))), some (.int (i32 j)), none, none], [], (k + 64, e, (mm_RM r), I2, J, A', B)) = mm_run (mm_pr tb_X11_answer) (94, [some (.ref 39), some (.int (i32 p)), some (.int (i32 c1)), some (.int (i32 c2)), some (.int (i32 cl)), some (.int (i32 c)), some (.int (i32 (if mb E cl = true then ndf c (2 ^ jc) else c))), some (.int iN), some (.int (si ((gn E : Int) - 1))), none], [], (k + 64, e, (mm_RM r), I2, J, A', B)) := by
      intro dd
      induction dd with
      | zero =>
        intro j hj
        have e0 : (if mb E cl = true ∧ jc < j then ndf c (2 ^ jc) else c) = (if mb E cl = true then ndf c (2 ^ jc) else c) := by
          by_cases q : mb E cl = true
          · have := (gc_of (show cl < 36 by omega) q).1
            rw [if_pos ⟨q, by omega⟩, if_pos q]
          · rw [if_neg (fun z => q z.1), if_neg q]
        rw [e0, sg_X11_answer_34, h21, if_neg (by rw [i32_lt (by omega) (by omega)]; omega)]
        rw [show i32 (gn E) - (1 : Int32) = si ((gn E : Int) - 1) by rw [si_i32, show (1 : Int32) = si 1 by decide, si_sub]]
        rfl
      | succ dd ih =>
        intro j hj
        have gj := gc_spec (E := E) (k := j) (by omega)
        rw [← ih (j + 1) (by omega), sg_X11_answer_34, h21, if_pos (by rw [i32_lt (by omega) (by omega)]; omega), if_neg nx, if_pos ((i32_in (by omega)).2 (by omega)), i32_ix (by omega), f4 j (by omega)]
        by_cases q : gc E j = cl
        · have hE' : mb E cl = true := by rw [← q]; exact gj.2.1
          have ej : jc = j := by rw [hjc, ← q]; exact gj.2.2
          rw [if_pos (by rw [q]), if_pos (show mb E cl = true ∧ jc < j + 1 from ⟨hE', by omega⟩), sg_X11_answer_75, ej]
          simp only [i32_l]
          rw [i32_shl (by omega), show i32 c &&& (i32 (2 ^ j) ^^^ (-(i32 1))) = i32 (ndf c (2 ^ j)) from i32_ndf _ _, i32_add]
        · have e1 : (if mb E cl = true ∧ jc < j + 1 then ndf c (2 ^ jc) else c) = (if mb E cl = true ∧ jc < j then ndf c (2 ^ jc) else c) := by
            by_cases y : mb E cl = true
            · have gl := gc_of (show cl < 36 by omega) y
              have : jc ≠ j := fun z => q (by rw [← z, hjc]; exact gl.2)
              by_cases y2 : jc < j
              · rw [if_pos (show mb E cl = true ∧ jc < j + 1 from ⟨y, by omega⟩), if_pos (show mb E cl = true ∧ jc < j from ⟨y, y2⟩)]
              · rw [if_neg (show ¬ (mb E cl = true ∧ jc < j + 1) from fun z => by have := z.2; omega), if_neg (show ¬ (mb E cl = true ∧ jc < j) from fun z => y2 z.2)]
            · rw [if_neg (fun z => y z.1), if_neg (fun z => y z.1)]
          rw [if_neg (by rw [i32_eq (by omega) (by omega)]; exact q), sg_X11_answer_73, sg_X11_answer_75, e1]
          simp only [i32_l]
          rw [i32_add]
    have f0 := first (gn E) 0 (by omega)
    rw [if_neg (show ¬ (mb E cl = true ∧ jc < 0) by omega)] at f0
    rw [f0]
    by_cases hm : mb (spr E c (gn E)) cl = true
    · obtain ⟨m1, m2, m3⟩ := spr_mem.1 hm
      rw [← hjc] at m3
      obtain ⟨rs, hrs⟩ : ∃ rs, rs = ndf c (2 ^ jc) := ⟨_, rfl⟩
      have rlt : rs < c := by rw [hrs]; exact rm_lt m3
      rw [if_pos m2, ← hrs]
      have L : ∀ (j : Nat) (y : Int32) (o9 : Option Value), j ≤ gn E → ((∃ i, j ≤ i ∧ i < gn E ∧ rs.testBit i = true ∧ LH (TT K R C E (sN lg m sw p) c1 c2) (gn E) (2 ^ i) (ndf rs (2 ^ i)) ∧ (∀ u, j ≤ u → u < i → rs.testBit u = true → ¬ LH (TT K R C E (sN lg m sw p) c1 c2) (gn E) (2 ^ u) (ndf rs (2 ^ u))) ∧ y = i32 (gc E i)) ∨ (y = iN ∧ ∀ i, j ≤ i → i < gn E → rs.testBit i = true → ¬ LH (TT K R C E (sN lg m sw p) c1 c2) (gn E) (2 ^ i) (ndf rs (2 ^ i)))) → ∃ x', mm_run (mm_pr tb_X11_answer) (94, [some (.ref 39), some (.int (i32 p)), some (.int (i32 c1)), some (.int (i32 c2)), some (.int (i32 cl)), some (.int (i32 c)), some (.int (i32 rs)), some (.int y), some (.int (si ((j : Int) - 1))), o9], [], (k + 64, e, (mm_RM r), I2, J, A', B)) = some (.inl (some (.int x')), (k + 64, e, (mm_RM r), I2, J, A', B)) ∧ AnsP (TT K R C E (sN lg m sw p) c1 c2) E rs x' := by
        intro j
        induction j with
        | zero =>
          intro y o9 _ hy
          refine ⟨y, ?_, ?_⟩
          · rw [sg_X11_answer_94, if_pos (by decide), sg_X11_answer_177]
          · rcases hy with ⟨i, i1, i2, i3, i4, i5, i6⟩ | ⟨i1, i2⟩
            · exact Or.inl ⟨i, i2, i3, i4, fun u u1 u2 => i5 u (Nat.zero_le _) u1 u2, i6⟩
            · exact Or.inr ⟨i1, fun u u1 u2 => i2 u (Nat.zero_le _) u1 u2⟩
        | succ j ih =>
          intro y o9 hj hy
          have e0 : si (((j + 1 : Nat) : Int) - 1) = i32 j := by rw [si_i32]; congr 1; omega
          have e1 : i32 j + (-1 : Int32) = si ((j : Int) - 1) := by rw [si_i32, show (-1 : Int32) = si (-1) by decide, si_add]; rfl
          have gj := gc_spec (E := E) (k := j) (by omega)
          have skip : (rs.testBit j = true → ¬ LH (TT K R C E (sN lg m sw p) c1 c2) (gn E) (2 ^ j) (ndf rs (2 ^ j))) → ∃ x', mm_run (mm_pr tb_X11_answer) (149, [some (.ref 39), some (.int (i32 p)), some (.int (i32 c1)), some (.int (i32 c2)), some (.int (i32 cl)), some (.int (i32 c)), some (.int (i32 rs)), some (.int y), some (.int (i32 j)), o9], [], (k + 64, e, (mm_RM r), I2, J, A', B)) = some (.inl (some (.int x')), (k + 64, e, (mm_RM r), I2, J, A', B)) ∧ AnsP (TT K R C E (sN lg m sw p) c1 c2) E rs x' := by
            intro hn
            rw [sg_X11_answer_149, sg_X11_answer_150, if_pos (show (0 : Int32) = 0 from rfl), sg_X11_answer_169, e1]
            refine ih y _ (by omega) ?_
            rcases hy with ⟨i, i1, i2, i3, i4, i5, i6⟩ | ⟨i1, i2⟩
            · refine Or.inl ⟨i, by omega, i2, i3, i4, fun u u1 u2 u3 => ?_, i6⟩
              by_cases z : u = j
              · subst z; exact hn u3
              · exact i5 u (by omega) u2 u3
            · refine Or.inr ⟨i1, fun u u1 u2 u3 => ?_⟩
              by_cases z : u = j
              · subst z; exact hn u3
              · exact i2 u (by omega) u2 u3
          rw [e0, sg_X11_answer_94, if_neg (by rw [show (0 : Int32) = i32 0 from rfl, i32_lt (by omega) (by decide)]; omega), if_neg (by rw [i32_eq (by omega) (by omega)]; omega)]
          simp only [i32_l]
          rw [shr_bit (by omega) (by omega)]
          cases hb : rs.testBit j with
          | false =>
            rw [if_neg (show ¬ (if false = true then i32 1 else i32 0) = i32 1 by decide)]
            exact skip (fun z => by rw [hb] at z; cases z)
          | true =>
            have dj : ndf rs (2 ^ j) &&& 2 ^ j = 0 := by
              have := and0_mv (m := 0) (r := rs) (k := j) (Nat.zero_and _)
              rw [Nat.zero_or, Nat.and_comm] at this; exact this
            have pj : 2 ^ j < 2 ^ gn E := Nat.pow_lt_pow_right (by decide) (by omega)
            have nl : ndf rs (2 ^ j) < 2 ^ gn E := ndf_lt (by omega)
            have vv := f3 (ndf rs (2 ^ j)) (2 ^ j) nl pj dj
            unfold VLk at vv
            have vb := vl_lt (TT K R C E (sN lg m sw p) c1 c2) (gn E) (2 ^ j) (ndf rs (2 ^ j))
            have clt := cs_lt dj (gn E)
            rw [if_pos (show (if true = true then i32 1 else i32 0) = i32 1 from rfl), i32_shl (by omega), show i32 rs &&& (i32 (2 ^ j) ^^^ (-(i32 1))) = i32 (ndf rs (2 ^ j)) from i32_ndf _ _, sp_Mcode k r e I2 J A' B hg h21 hT' (by omega) (by omega) dj, mm_aft_v, sg_X11_answer_138, if_pos ((i32_in (by omega)).2 (by omega)), i32_ix (by omega), vv]
            simp only [i32_l]
            rw [i32_mod2 (by omega)]
            by_cases q : LH (TT K R C E (sN lg m sw p) c1 c2) (gn E) (2 ^ j) (ndf rs (2 ^ j))
            · rw [(vl_1 _ _ _ _).2 q, if_pos rfl, sg_X11_answer_150, if_neg (show ¬ i32 1 = 0 by decide), if_pos ((i32_in (by omega)).2 (by omega)), i32_ix (by omega), f4 j (by omega), sg_X11_answer_169, e1]
              exact ih (i32 (gc E j)) _ (by omega) (Or.inl ⟨j, Nat.le_refl _, by omega, hb, q, fun u u1 u2 _ => by omega, rfl⟩)
            · have q0 : vl (TT K R C E (sN lg m sw p) c1 c2) (gn E) (2 ^ j) (ndf rs (2 ^ j)) % 2 = 0 := by
                have := mt (vl_1 (TT K R C E (sN lg m sw p) c1 c2) (gn E) (2 ^ j) (ndf rs (2 ^ j))).1 q
                omega
              rw [q0, if_neg (by decide)]
              exact skip (fun _ => q)
      obtain ⟨x', l1, l2⟩ := L (gn E) iN none (Nat.le_refl _) (Or.inr ⟨rfl, fun i i1 i2 _ => by omega⟩)
      exact ⟨I2, A', x', l1, Or.inr ⟨c, cm, Or.inr ⟨hm, by rw [← hjc, ← hrs]; exact l2⟩⟩, th, fm⟩
    · refine ⟨I2, A', iN, ?_, Or.inr ⟨c, cm, Or.inl ⟨rfl, bool_f hm⟩⟩, th, fm⟩
      have e2 : (if mb E cl = true then ndf c (2 ^ jc) else c) = c := by
        by_cases y : mb E cl = true
        · rw [if_pos y]
          have nb : c.testBit jc = false := bool_f (fun z => hm (spr_mem.2 ⟨by omega, y, by rw [← hjc]; exact z⟩))
          refine Nat.eq_of_testBit_eq (fun i => ?_)
          rw [tb_rm]
          by_cases z : jc = i
          · subst z; rw [nb]; rfl
          · rw [decide_eq_false z]; simp
        · rw [if_neg y]
      rw [e2]
      exact stop _ _ _ _
end
