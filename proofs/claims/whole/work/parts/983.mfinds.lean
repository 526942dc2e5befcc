/-! links in the reference: all fillings, the carrier -/
noncomputable def vl (T : Nat → Prop) (n t r : Nat) : Nat := (if pdec (LH T n t r) = true then 1 else 0) + (if pdec (LG T n t r) = true then 2 else 0)
theorem vl_2 (T : Nat → Prop) (n t r : Nat) : vl T n t r < 2 ↔ ¬ LG T n t r := by
  unfold vl
  cases g : pdec (LG T n t r) with
  | true =>
    have y := pdec_t.1 g
    cases pdec (LH T n t r) <;> simp [y]
  | false =>
    have y : ¬ LG T n t r := fun z => by rw [pdec_t.2 z] at g; cases g
    cases pdec (LH T n t r) <;> simp [y]
theorem vl_1 (T : Nat → Prop) (n t r : Nat) : vl T n t r % 2 = 1 ↔ LH T n t r := by
  unfold vl
  cases g : pdec (LH T n t r) with
  | true =>
    have y := pdec_t.1 g
    cases pdec (LG T n t r) <;> simp [y]
  | false =>
    have y : ¬ LH T n t r := fun z => by rw [pdec_t.2 z] at g; cases g
    cases pdec (LG T n t r) <;> simp [y]
theorem vl_lt (T : Nat → Prop) (n t r : Nat) : vl T n t r < 4 := by
  unfold vl
  cases pdec (LG T n t r) <;> cases pdec (LH T n t r) <;> decide
theorem vl_0 {T : Nat → Prop} {n t r : Nat} (h : pop n r = 0) : vl T n t r = if pdec (T t) = true then 3 else 0 := by
  unfold vl
  rw [show pdec (LH T n t r) = pdec (T t) by rw [Bool.eq_iff_iff, pdec_t, pdec_t, LH_0 h], show pdec (LG T n t r) = pdec (T t) by rw [Bool.eq_iff_iff, pdec_t, pdec_t, LG_0 h]]
  cases pdec (T t) <;> rfl
abbrev VLk (T : Nat → Prop) (n : Nat) (A : Nat → Nat → Int32) (r t : Nat) : Prop := A 52 (cs n r t) = i32 (vl T n t r)
theorem and_lt2 {a b n : Nat} (h : a < 2 ^ n) : a ||| b < 2 ^ n ↔ b < 2 ^ n := by
  constructor
  · intro q; exact Nat.lt_of_le_of_lt Nat.right_le_or q
  · intro q; exact Nat.or_lt_two_pow h q
section
variable {K R C : Nat} (k : Nat) (r : Nat → Nat → Value) (e : Nat) (I : Nat → Nat → Int32) (J : Nat → Nat → Int64) (B : Nat → Nat → Int64)
theorem sp_MgoesOn {T : Nat → Prop} {n : Nat} (A : Nat → Nat → Int32) (hn : n ≤ 9) (h21 : I 39 21 = i32 n) (hT : ∀ j, j < 10 → A 51 j = i32 (3 ^ j)) {rs t : Nat} (hr : rs < 2 ^ n) (ht : t < 2 ^ n) (hd : rs &&& t = 0) (hp : 0 < pop n rs) (v1 : ∀ j, j < n → rs.testBit j = true → VLk T n A (ndf rs (2 ^ j)) t) (v2 : ∀ j, j < n → rs.testBit j = true → VLk T n A (ndf rs (2 ^ j)) (t ||| 2 ^ j)) : f_X11_goesOn [.ref 39, .int (i32 rs), .int (i32 t)] (k + 64, e, (mm_RM r), I, J, A, B) = some (.inl (some (.int (i32 (vl T n t rs)))), (k + 64, e, (mm_RM r), I, J, A, B)) := by
  have p9 := p512 hn
  have p3 := p3le hn
  obtain ⟨f, hf⟩ : ∃ f, pop n rs = f + 1 := ⟨pop n rs - 1, by omega⟩
  have L : ∀ (dd j : Nat) (a b : Bool), j + dd = n → (a = true ↔ ∀ i, i < j → rs.testBit i = true → LG T n t (ndf rs (2 ^ i))) → (b = true ↔ ∃ i, i < j ∧ rs.testBit i = true ∧ LH T n (t ||| 2 ^ i) (ndf rs (2 ^ i))) → mm_run (mm_pr tb_X11_goesOn) (16, [some (.ref 39), some (.int (i32 rs)), some (.int (i32 t)), some (.int (i32 (cs n rs t))), some (.int (bi a)), some (.int (bi b)), some (.int (i32 j))], [], (k + 64, e, (mm_RM r), I, J, A, B)) = some (.inl (some (.int (i32 (vl T n t rs)))), (k + 64, e, (mm_RM r), I, J, A, B)) := by
    intro dd
    induction dd with
    | zero =>
      intro j a b hj ha hb
      have e1 : pdec (LH T n t rs) = a := by
        rw [Bool.eq_iff_iff, pdec_t, ha, LH_s hf]
        exact ⟨fun q i i1 i2 => q i (by omega) i2, fun q i i1 i2 => q i (by omega) i2⟩
      have e2 : pdec (LG T n t rs) = b := by
        rw [Bool.eq_iff_iff, pdec_t, hb, LG_s hf]
        exact ⟨fun ⟨i, i1, i2⟩ => ⟨i, by omega, i2⟩, fun ⟨i, i1, i2⟩ => ⟨i, by omega, i2⟩⟩
      rw [sg_X11_goesOn_16, h21, if_neg (by rw [i32_lt (by omega) (by omega)]; omega)]
      unfold vl
      rw [e1, e2]
      cases a <;> cases b
      · rw [if_pos (show bi false = 0 from rfl), sg_X11_goesOn_113, if_pos (show bi false = 0 from rfl), sg_X11_goesOn_123]; rfl
      · rw [if_pos (show bi false = 0 from rfl), sg_X11_goesOn_113, if_neg (show ¬ bi true = 0 by decide), sg_X11_goesOn_123]; rfl
      · rw [if_neg (show ¬ bi true = 0 by decide), sg_X11_goesOn_113, if_pos (show bi false = 0 from rfl), sg_X11_goesOn_123]; rfl
      · rw [if_neg (show ¬ bi true = 0 by decide), sg_X11_goesOn_113, if_neg (show ¬ bi true = 0 by decide), sg_X11_goesOn_123]; rfl
    | succ dd ih =>
      intro j a b hj ha hb
      have p3j := pow3_lt (j := j) (by omega)
      have p3p : 0 < 3 ^ j := Nat.pow_pos (by decide)
      rw [sg_X11_goesOn_16, h21, if_pos (by rw [i32_lt (by omega) (by omega)]; omega)]
      simp only [i32_l]
      rw [shr_bit (by omega) (by omega)]
      cases hb1 : rs.testBit j with
      | false =>
        rw [if_neg (show ¬ (if false = true then i32 1 else i32 0) = i32 1 by decide), sg_X11_goesOn_97]
        simp only [i32_l]
        rw [i32_add]
        refine ih (j + 1) a b (by omega) ?_ ?_
        · rw [ha]
          constructor
          · intro q i i1 i2
            by_cases y : i = j
            · subst y; rw [hb1] at i2; cases i2
            · exact q i (by omega) i2
          · intro q i i1 i2; exact q i (by omega) i2
        · rw [hb]
          constructor
          · rintro ⟨i, i1, i2⟩; exact ⟨i, by omega, i2⟩
          · rintro ⟨i, i1, i2, i3⟩
            by_cases y : i = j
            · subst y; rw [hb1] at i2; cases i2
            · exact ⟨i, by omega, i2, i3⟩
      | true =>
        have tb0 : t.testBit j = false := by have := and0_bit hd j; rw [hb1] at this; simpa using this
        have w1 := v1 j (by omega) hb1
        have w2 := v2 j (by omega) hb1
        have c1 := cs_rm (b := t) hb1 n (by omega)
        have c2 := cs_mv (n := n) hb1 tb0 (by omega)
        have l1 := cs_lt hd n
        have l2 := cs_lt (and0_mv (m := t) (r := rs) (k := j) (by rw [Nat.and_comm]; exact hd)) n
        rw [Nat.and_comm] at hd
        have l2' : cs n (ndf rs (2 ^ j)) (t ||| 2 ^ j) < 3 ^ n := cs_lt (by rw [Nat.and_comm]; exact and0_mv hd) n
        unfold VLk at w1 w2
        have x1 := vl_lt T n t (ndf rs (2 ^ j))
        have x2 := vl_lt T n (t ||| 2 ^ j) (ndf rs (2 ^ j))
        have s1 : i32 (cs n rs t) - i32 (3 ^ j) = i32 (cs n (ndf rs (2 ^ j)) t) := by rw [c1, i32_sub (by omega), show cs n (ndf rs (2 ^ j)) t + 3 ^ j - 3 ^ j = cs n (ndf rs (2 ^ j)) t by omega]
        have s2 : i32 (cs n rs t) + i32 (3 ^ j) = i32 (cs n (ndf rs (2 ^ j)) (t ||| 2 ^ j)) := by rw [c2, i32_add]
        have nxt : ∀ b' : Bool, (b' = true ↔ ∃ i, i < j + 1 ∧ rs.testBit i = true ∧ LH T n (t ||| 2 ^ i) (ndf rs (2 ^ i))) → ∀ a' : Bool, (a' = true ↔ ∀ i, i < j + 1 → rs.testBit i = true → LG T n t (ndf rs (2 ^ i))) → mm_run (mm_pr tb_X11_goesOn) (95, [some (.ref 39), some (.int (i32 rs)), some (.int (i32 t)), some (.int (i32 (cs n rs t))), some (.int (bi a')), some (.int (bi b)), some (.int (i32 j))], [.int (bi b')], (k + 64, e, (mm_RM r), I, J, A, B)) = some (.inl (some (.int (i32 (vl T n t rs)))), (k + 64, e, (mm_RM r), I, J, A, B)) := by
          intro b' hb' a' ha'
          rw [sg_X11_goesOn_95, sg_X11_goesOn_97]
          simp only [i32_l]
          rw [i32_add]
          exact ih (j + 1) a' b' (by omega) ha' hb'
        have mid : ∀ a' : Bool, (a' = true ↔ ∀ i, i < j + 1 → rs.testBit i = true → LG T n t (ndf rs (2 ^ i))) → mm_run (mm_pr tb_X11_goesOn) (63, [some (.ref 39), some (.int (i32 rs)), some (.int (i32 t)), some (.int (i32 (cs n rs t))), some (.int (bi a)), some (.int (bi b)), some (.int (i32 j))], [.int (bi a')], (k + 64, e, (mm_RM r), I, J, A, B)) = some (.inl (some (.int (i32 (vl T n t rs)))), (k + 64, e, (mm_RM r), I, J, A, B)) := by
          intro a' ha'
          rw [sg_X11_goesOn_63]
          cases b with
          | true =>
            rw [if_neg (show ¬ bi true = 0 by decide), sg_X11_goesOn_90]
            refine nxt true ⟨fun _ => ?_, fun _ => rfl⟩ a' ha'
            obtain ⟨i, i1, i2⟩ := hb.1 rfl
            exact ⟨i, by omega, i2⟩
          | false =>
            rw [if_pos (show bi false = 0 from rfl), if_pos ((i32_in (by omega)).2 (by omega)), i32_ix (by omega), hT j (by omega), s2, if_pos ((i32_in (by omega)).2 (by omega)), i32_ix (by omega), w2]
            simp only [i32_l]
            rw [i32_mod2 (by omega)]
            by_cases q : LH T n (t ||| 2 ^ j) (ndf rs (2 ^ j))
            · rw [(vl_1 _ _ _ _).2 q, if_pos rfl, sg_X11_goesOn_90]
              exact nxt true ⟨fun _ => ⟨j, by omega, hb1, q⟩, fun _ => rfl⟩ a' ha'
            · have q0 : vl T n (t ||| 2 ^ j) (ndf rs (2 ^ j)) % 2 = 0 := by
                have := mt (vl_1 T n (t ||| 2 ^ j) (ndf rs (2 ^ j))).1 q
                omega
              rw [q0, if_neg (by decide)]
              refine nxt false ⟨fun z => Bool.noConfusion z, fun ⟨i, i1, i2, i3⟩ => ?_⟩ a' ha'
              by_cases y : i = j
              · subst y; exact absurd i3 q
              · exact hb.2 ⟨i, by omega, i2, i3⟩
        rw [if_pos (show (if true = true then i32 1 else i32 0) = i32 1 from rfl)]
        cases a with
        | false =>
          rw [if_pos (show bi false = i32 0 from rfl), sg_X11_goesOn_62]
          refine mid false ⟨fun z => Bool.noConfusion z, fun q => ?_⟩
          exact ha.2 (fun i i1 i2 => q i (by omega) i2)
        | true =>
          rw [if_neg (show ¬ bi true = i32 0 by decide), if_pos ((i32_in (by omega)).2 (by omega)), i32_ix (by omega), hT j (by omega), s1, if_pos ((i32_in (by omega)).2 (by omega)), i32_ix (by omega), w1]
          by_cases q : LG T n t (ndf rs (2 ^ j))
          · have x3 : ¬ vl T n t (ndf rs (2 ^ j)) < 2 := fun z => (vl_2 _ _ _ _).1 z q
            rw [if_neg (by rw [i32_lt (by omega) (by decide)]; exact x3)]
            refine mid true ⟨fun _ i i1 i2 => ?_, fun _ => rfl⟩
            by_cases y : i = j
            · subst y; exact q
            · exact ha.1 rfl i (by omega) i2
          · rw [if_pos (by rw [i32_lt (by omega) (by decide)]; exact (vl_2 _ _ _ _).2 q), sg_X11_goesOn_62]
            exact mid false ⟨fun z => Bool.noConfusion z, fun y => absurd (y j (by omega) hb1) q⟩
  rw [en_X11_goesOn, sg_X11_goesOn_0, sp_Mcode k r e I J A B hn h21 hT (by omega) (by omega) hd, mm_aft_v, sg_X11_goesOn_6]
  exact L n 0 true false (by omega) ⟨fun _ i hi => absurd hi (Nat.not_lt_zero _), fun _ => rfl⟩ ⟨fun z => Bool.noConfusion z, fun ⟨i, hi, _⟩ => absurd hi (Nat.not_lt_zero _)⟩
theorem sp_MfindsLinks {lg : Nat → Nat} {m : Nat} {sw : Bool} (A : Nat → Nat → Int32) (h : MG K R C lg m sw I A B) (w : WG K R C lg m sw) (hg : gn (emp (bN K R C) (sN lg m sw 0) (sN lg m sw 1)) ≤ 9) {p one oth : Nat} (hp : p < 2) (h1 : okE K R C one) (h2 : okE K R C oth) : ∃ A', f_X11_findsLinks [.ref 39, .int (i32 p), .int (i32 one), .int (i32 oth)] (k + 64, e, (mm_RM r), I, J, A, B) = some (.inl none, (k + 64, e, (mm_RM r), mm_up I 39 21 (i32 (gn (emp (bN K R C) (sN lg m sw 0) (sN lg m sw 1)))), J, A', B)) ∧ (∀ rs t, rs < 2 ^ gn (emp (bN K R C) (sN lg m sw 0) (sN lg m sw 1)) → t < 2 ^ gn (emp (bN K R C) (sN lg m sw 0) (sN lg m sw 1)) → rs &&& t = 0 → VLk (TT K R C (emp (bN K R C) (sN lg m sw 0) (sN lg m sw 1)) (sN lg m sw p) one oth) (gn (emp (bN K R C) (sN lg m sw 0) (sN lg m sw 1))) A' rs t) ∧ (∀ k, k < gn (emp (bN K R C) (sN lg m sw 0) (sN lg m sw 1)) → A' 50 k = i32 (gc (emp (bN K R C) (sN lg m sw 0) (sN lg m sw 1)) k)) ∧ (∀ i, i ≠ 50 → i ≠ 52 → A' i = A i) := by
  have hN := bN_le w.1
  have hE := emp_EH hN (sN lg m sw 0) (sN lg m sw 1)
  have st0 : f_X11_findsLinks [.ref 39, .int (i32 p), .int (i32 one), .int (i32 oth)] (k + 64, e, (mm_RM r), I, J, A, B) = mm_aft (mm_pr tb_X11_findsLinks) 8 [some (.ref 39), some (.int (i32 p)), some (.int (i32 one)), some (.int (i32 oth)), none, none, none] [] (f_X11_takesEmpty [.ref 39, .long (emp (bN K R C) (sN lg m sw 0) (sN lg m sw 1))] (k + 64, e, (mm_RM r), I, J, A, B)) := by
    rw [en_X11_findsLinks, sg_X11_findsLinks_0, sp_MemptyG k r e I J A B h, mm_aft_v, sg_X11_findsLinks_5]
  rw [st0]
  have b45 : B 45 p = sN lg m sw p := by
    have t : p = 0 ∨ p = 1 := by omega
    rcases t with q | q
    · subst q; exact h.2.2.1
    · subst q; exact h.2.2.2.1
  have s64 : ∀ c, mb (B 45 p) c = true → c < bN K R C := fun c hc => by
    rw [b45] at hc
    have h64 : ∀ i, i < m → lg i < 64 := fun i hi => by have := w.n36 i hi; omega
    obtain ⟨i, i1, _, _, i4⟩ := (mb_stN lg (kf sw m) p c m h64).1 hc
    rw [← i4]; exact w.2.1 i i1
  generalize hEd : emp (bN K R C) (sN lg m sw 0) (sN lg m sw 1) = E at hE hg ⊢
  have p9 := p512 hg
  have p3 := p3le hg
  obtain ⟨T, hTd⟩ : ∃ T, T = TT K R C E (sN lg m sw p) one oth := ⟨_, rfl⟩
  rw [← hTd]
  obtain ⟨A1, t1, t2, t3⟩ := sp_MtakesEmpty k r e I J A B (E := E) hN h.1.cells hg (fun c hc => bool_f (fun z => by have := ((hE c).1 z).1; omega))
  obtain ⟨I1, hI1⟩ : ∃ I1, I1 = mm_up I 39 21 (i32 (gn E)) := ⟨_, rfl⟩
  have h21 : I1 39 21 = i32 (gn E) := by rw [hI1, mm_up_eq]
  have mb1 : ∀ A', (∀ i, i ≠ 50 → i ≠ 52 → A' i = A i) → MB K R C I1 A' B := fun A' hA => h.1.fr (fun p hp => by rw [hI1, mm_up_ne2 _ _ _ _ _ _ (by omega)]) (hA 40 (by decide) (by decide)) (hA 41 (by decide) (by decide)) (hA 42 (by decide) (by decide)) rfl rfl
  have pp : 1 ≤ 2 ^ gn E := Nat.one_le_two_pow
  have inner : ∀ (rs : Nat), rs < 2 ^ gn E → ∀ (dd t : Nat) (A' : Nat → Nat → Int32), t + dd = 2 ^ gn E → (∀ i, i < gn E → A' 50 i = i32 (gc E i)) → (∀ i, i ≠ 50 → i ≠ 52 → A' i = A i) → (∀ r' t', r' < 2 ^ gn E → t' < 2 ^ gn E → r' &&& t' = 0 → (r' < rs ∨ (r' = rs ∧ t' < t)) → VLk T (gn E) A' r' t') → ∃ A'', mm_run (mm_pr tb_X11_findsLinks) (31, [some (.ref 39), some (.int (i32 p)), some (.int (i32 one)), some (.int (i32 oth)), some (.int (i32 (2 ^ gn E - 1))), some (.int (i32 rs)), some (.int (i32 t))], [], (k + 64, e, (mm_RM r), I1, J, A', B)) = mm_run (mm_pr tb_X11_findsLinks) (21, [some (.ref 39), some (.int (i32 p)), some (.int (i32 one)), some (.int (i32 oth)), some (.int (i32 (2 ^ gn E - 1))), some (.int (i32 (rs + 1))), some (.int (i32 (2 ^ gn E)))], [], (k + 64, e, (mm_RM r), I1, J, A'', B)) ∧ (∀ i, i < gn E → A'' 50 i = i32 (gc E i)) ∧ (∀ i, i ≠ 50 → i ≠ 52 → A'' i = A i) ∧ (∀ r' t', r' < 2 ^ gn E → t' < 2 ^ gn E → r' &&& t' = 0 → r' < rs + 1 → VLk T (gn E) A'' r' t') := by
    intro rs hrs dd
    induction dd with
    | zero =>
      intro t A' ht h50 hA hv
      refine ⟨A', ?_, h50, hA, fun r' t' x1 x2 x3 x4 => hv r' t' x1 x2 x3 (by omega)⟩
      rw [sg_X11_findsLinks_31, if_pos (by rw [i32_lt (by omega) (by omega)]; omega), show t = 2 ^ gn E by omega]
      simp only [i32_l]
      rw [i32_add]
    | succ dd ih =>
      intro t A' ht h50 hA hv
      have hT' : ∀ j, j < 10 → A' 51 j = i32 (3 ^ j) := fun j hj => by rw [hA 51 (by decide) (by decide)]; exact h.2.2.2.2 j hj
      have adv : ∀ A2, (∀ i, i < gn E → A2 50 i = i32 (gc E i)) → (∀ i, i ≠ 50 → i ≠ 52 → A2 i = A i) → (∀ r' t', r' < 2 ^ gn E → t' < 2 ^ gn E → r' &&& t' = 0 → (r' < rs ∨ (r' = rs ∧ t' < t + 1)) → VLk T (gn E) A2 r' t') → ∃ A'', mm_run (mm_pr tb_X11_findsLinks) (84, [some (.ref 39), some (.int (i32 p)), some (.int (i32 one)), some (.int (i32 oth)), some (.int (i32 (2 ^ gn E - 1))), some (.int (i32 rs)), some (.int (i32 t))], [], (k + 64, e, (mm_RM r), I1, J, A2, B)) = mm_run (mm_pr tb_X11_findsLinks) (21, [some (.ref 39), some (.int (i32 p)), some (.int (i32 one)), some (.int (i32 oth)), some (.int (i32 (2 ^ gn E - 1))), some (.int (i32 (rs + 1))), some (.int (i32 (2 ^ gn E)))], [], (k + 64, e, (mm_RM r), I1, J, A'', B)) ∧ (∀ i, i < gn E → A'' 50 i = i32 (gc E i)) ∧ (∀ i, i ≠ 50 → i ≠ 52 → A'' i = A i) ∧ (∀ r' t', r' < 2 ^ gn E → t' < 2 ^ gn E → r' &&& t' = 0 → r' < rs + 1 → VLk T (gn E) A'' r' t') := by
        intro A2 x1 x2 x3
        rw [sg_X11_findsLinks_84]
        simp only [i32_l]
        rw [i32_add]
        exact ih (t + 1) A2 (by omega) x1 x2 x3
      rw [sg_X11_findsLinks_31, if_neg (by rw [i32_lt (by omega) (by omega)]; omega), i32_and]
      by_cases q : rs &&& t = 0
      · rw [q, if_pos (show i32 0 = 0 from rfl), sp_Mcode k r e I1 J A' B hg h21 hT' (by omega) (by omega) q, mm_aft_v, sg_X11_findsLinks_58]
        have wr : ∀ vv, vv = vl T (gn E) t rs → ∃ A'', mm_run (mm_pr tb_X11_findsLinks) (83, [some (.ref 39), some (.int (i32 p)), some (.int (i32 one)), some (.int (i32 oth)), some (.int (i32 (2 ^ gn E - 1))), some (.int (i32 rs)), some (.int (i32 t))], [.int (i32 vv), .int (i32 (cs (gn E) rs t)), .ref 52], (k + 64, e, (mm_RM r), I1, J, A', B)) = mm_run (mm_pr tb_X11_findsLinks) (21, [some (.ref 39), some (.int (i32 p)), some (.int (i32 one)), some (.int (i32 oth)), some (.int (i32 (2 ^ gn E - 1))), some (.int (i32 (rs + 1))), some (.int (i32 (2 ^ gn E)))], [], (k + 64, e, (mm_RM r), I1, J, A'', B)) ∧ (∀ i, i < gn E → A'' 50 i = i32 (gc E i)) ∧ (∀ i, i ≠ 50 → i ≠ 52 → A'' i = A i) ∧ (∀ r' t', r' < 2 ^ gn E → t' < 2 ^ gn E → r' &&& t' = 0 → r' < rs + 1 → VLk T (gn E) A'' r' t') := by
          intro vv hvv
          have cl := cs_lt q (gn E)
          rw [sg_X11_findsLinks_83, if_pos ((i32_in (by omega)).2 (by omega)), i32_ix (by omega)]
          refine adv _ (fun i hi => by rw [mm_up_row _ _ _ _ _ (by decide)]; exact h50 i hi) (fun i i1 i2 => by rw [mm_up_row _ _ _ _ _ i2]; exact hA i i1 i2) (fun r' t' y1 y2 y3 y4 => ?_)
          by_cases z : cs (gn E) r' t' = cs (gn E) rs t
          · obtain ⟨z1, z2⟩ := cs_inj y1 y2 hrs (by omega) y3 q z
            subst z1; subst z2
            show mm_up _ _ _ _ 52 _ = _
            rw [mm_up_eq, hvv]
          · show mm_up _ _ _ _ 52 _ = _
            rw [mm_up_ne2 _ _ _ _ _ _ z]
            refine hv r' t' y1 y2 y3 ?_
            rcases y4 with y4 | ⟨y4, y5⟩
            · exact Or.inl y4
            · right
              refine ⟨y4, ?_⟩
              by_cases y6 : t' = t
              · subst y4; subst y6; exact absurd rfl z
              · omega
        by_cases r0 : rs = 0
        · subst r0
          rw [if_pos (show i32 0 = 0 from rfl), sp_Mlinked k r e I1 J A' B (mb1 A' hA) ⟨hg, h21, h50⟩ (fun c hc => ((hE c).1 hc).1) hp (by omega) s64 h1 h2, mm_aft_v, sg_X11_findsLinks_72]
          refine wr _ ?_
          have p0 : pop (gn E) 0 = 0 := cf_zero _ (fun c => Nat.zero_testBit c)
          rw [vl_0 p0, hTd, b45]
        · have rp : 0 < pop (gn E) rs := by
            cases hpo : pop (gn E) rs with
            | succ _ => omega
            | zero =>
              exfalso
              refine r0 (Nat.eq_of_testBit_eq (fun i => ?_))
              rw [Nat.zero_testBit]
              by_cases y : i < gn E
              · exact pop_0 hpo y
              · exact Nat.testBit_lt_two_pow (Nat.lt_of_lt_of_le hrs (Nat.pow_le_pow_right (by decide) (by omega)))
          have q' : t &&& rs = 0 := by rw [Nat.and_comm]; exact q
          rw [if_neg (by rw [show (0 : Int32) = i32 0 from rfl, i32_eq (by omega) (by decide)]; exact r0), sp_MgoesOn k r e I1 J B A' hg h21 hT' hrs (show t < 2 ^ gn E by omega) q rp (fun j j1 j2 => hv _ _ (ndf_lt hrs) (by omega) (by rw [Nat.and_comm]; exact and0_rm q') (Or.inl (rm_lt j2))) (fun j j1 j2 => hv _ _ (ndf_lt hrs) (Nat.or_lt_two_pow (by omega) (Nat.pow_lt_pow_right (by decide) j1)) (by rw [Nat.and_comm]; exact and0_mv q') (Or.inl (rm_lt j2))), mm_aft_v]
          exact wr _ rfl
      · rw [if_neg (by
          have le : rs &&& t ≤ rs := Nat.and_le_left
          rw [show (0 : Int32) = i32 0 from rfl, i32_eq (by omega) (by decide)]; exact q)]
        refine adv A' h50 hA (fun r' t' y1 y2 y3 y4 => hv r' t' y1 y2 y3 ?_)
        rcases y4 with y4 | ⟨y4, y5⟩
        · exact Or.inl y4
        · right
          refine ⟨y4, ?_⟩
          by_cases y6 : t' = t
          · subst y4; subst y6; exact absurd y3 q
          · omega
  have outer : ∀ (dd rs : Nat) (A' : Nat → Nat → Int32) (o6 : Option Value), rs + dd = 2 ^ gn E → (∀ i, i < gn E → A' 50 i = i32 (gc E i)) → (∀ i, i ≠ 50 → i ≠ 52 → A' i = A i) → (∀ r' t', r' < 2 ^ gn E → t' < 2 ^ gn E → r' &&& t' = 0 → r' < rs → VLk T (gn E) A' r' t') → ∃ A'', mm_run (mm_pr tb_X11_findsLinks) (21, [some (.ref 39), some (.int (i32 p)), some (.int (i32 one)), some (.int (i32 oth)), some (.int (i32 (2 ^ gn E - 1))), some (.int (i32 rs)), o6], [], (k + 64, e, (mm_RM r), I1, J, A', B)) = some (.inl none, (k + 64, e, (mm_RM r), I1, J, A'', B)) ∧ (∀ r' t', r' < 2 ^ gn E → t' < 2 ^ gn E → r' &&& t' = 0 → VLk T (gn E) A'' r' t') ∧ (∀ i, i < gn E → A'' 50 i = i32 (gc E i)) ∧ (∀ i, i ≠ 50 → i ≠ 52 → A'' i = A i) := by
    intro dd
    induction dd with
    | zero =>
      intro rs A' o6 hr h50 hA hv
      refine ⟨A', ?_, fun r' t' y1 y2 y3 => hv r' t' y1 y2 y3 (by omega), h50, hA⟩
      rw [sg_X11_findsLinks_21, if_pos (by rw [i32_lt (by omega) (by omega)]; omega)]
    | succ dd ih =>
      intro rs A' o6 hr h50 hA hv
      obtain ⟨A2, i1, i2, i3, i4⟩ := inner rs (by omega) (2 ^ gn E) 0 A' (by omega) h50 hA (fun r' t' y1 y2 y3 y4 => hv r' t' y1 y2 y3 (by omega))
      obtain ⟨A3, k1, k2⟩ := ih (rs + 1) A2 (some (.int (i32 (2 ^ gn E)))) (by omega) i2 i3 i4
      refine ⟨A3, ?_, k2⟩
      rw [← k1, ← i1, sg_X11_findsLinks_21, if_neg (by rw [i32_lt (by omega) (by omega)]; omega)]
      simp only [i32_l]
  obtain ⟨A2, u1, u2, u3, u4⟩ := outer (2 ^ gn E) 0 A1 none (by omega) t2 (fun i i1 _ => t3 i i1) (fun r' t' _ _ _ y => absurd y (Nat.not_lt_zero _))
  refine ⟨A2, ?_, u2, u3, u4⟩
  rw [t1, mm_aft_n, ← hI1, sg_X11_findsLinks_8, h21]
  simp only [i32_l]
  rw [i32_shl (by omega), i32_sub pp]
  exact u1
theorem sp_Msize (S : mm_S) {n s : Nat} (hn : n ≤ 9) (hs : s < 2 ^ n) : f_X11_size [.int (i32 s)] S = some (.inl (some (.int (i32 (pop n s)))), S) := by
  have p9 := p512 hn
  have L : ∀ dd j, j + dd = 9 → mm_run (mm_pr tb_X11_size) (4, [some (.int (i32 s)), some (.int (i32 (cf s.testBit j))), some (.int (i32 j))], [], S) = some (.inl (some (.int (i32 (cf s.testBit 9)))), S) := by
    intro dd
    induction dd with
    | zero =>
      intro j hj
      rw [sg_X11_size_4, if_neg (by rw [show (9 : Int32) = i32 9 from rfl, i32_lt (by omega) (by omega)]; omega), show j = 9 by omega]
    | succ dd ih =>
      intro j hj
      rw [← ih (j + 1) (by omega), sg_X11_size_4, if_pos (by rw [show (9 : Int32) = i32 9 from rfl, i32_lt (by omega) (by omega)]; omega)]
      simp only [i32_l]
      rw [shr_bit (by omega) (by omega), i32_add j 1]
      cases q : s.testBit j with
      | true => rw [if_pos rfl, i32_add, cf_s q]
      | false => rw [if_neg (by decide), i32_add, cf_s0 q]; rfl
  rw [en_X11_size, sg_X11_size_0]
  refine Eq.trans (L 9 0 (by omega)) ?_
  rw [show cf s.testBit 9 = pop n s by rw [← cf_ncnt, pop9 hn hs]]
end
