/-! dead cells, reference; moves that gave a win away -/
theorem shr_tab : ∀ a : Fin 512, ∀ k : Fin 9, ((i32 a.1 >>> (i32 k.1 &&& i32 31)) &&& i32 1) = if a.1.testBit k.1 = true then i32 1 else i32 0 := by decide +kernel
theorem shr_bit {a k : Nat} (ha : a < 512) (hk : k < 9) : ((i32 a >>> (i32 k &&& i32 31)) &&& i32 1) = if a.testBit k = true then i32 1 else i32 0 := shr_tab ⟨a, ha⟩ ⟨k, hk⟩
theorem i32_xor (a b : Nat) : i32 a ^^^ i32 b = i32 (a ^^^ b) := by
  apply Int32.toBitVec_inj.1
  apply BitVec.eq_of_toNat_eq
  show ((BitVec.ofNat 32 a) ^^^ (BitVec.ofNat 32 b)).toNat = (BitVec.ofNat 32 (a ^^^ b)).toNat
  rw [BitVec.toNat_xor, BitVec.toNat_ofNat, BitVec.toNat_ofNat, BitVec.toNat_ofNat, Nat.xor_mod_two_pow]
theorem testBit_lt {u g n : Nat} (h : u < 2 ^ n) (hb : u.testBit g = true) : g < n := by
  rcases Nat.lt_or_ge g n with q | q
  · exact q
  · rw [Nat.testBit_lt_two_pow (Nat.lt_of_lt_of_le h (Nat.pow_le_pow_right (by decide) q))] at hb; cases hb
/-- nothing changes by any filling's cell: two ways to say it -/
theorem Qd_xor {K R C : Nat} {E s0 : Int64} {n g : Nat} (hg : g < n) : (∀ u, u < 2 ^ n → ¬ Qd K R C E s0 u g) ↔ (∀ u, u < 2 ^ n → jnB K R C 0 (s0 ||| spr E u (gn E)) = jnB K R C 0 (s0 ||| spr E (u ^^^ 2 ^ g) (gn E))) := by
  have pg : 2 ^ g < 2 ^ n := Nat.pow_lt_pow_right (by decide) hg
  have xo : ∀ u, u.testBit g = false → u ^^^ 2 ^ g = u ||| 2 ^ g := by
    intro u hu
    refine Nat.eq_of_testBit_eq (fun i => ?_)
    rw [Nat.testBit_xor, Nat.testBit_or, Nat.testBit_two_pow]
    by_cases q : g = i
    · subst q; rw [hu, decide_eq_true rfl]; rfl
    · rw [decide_eq_false q, Bool.xor_false, Bool.or_false]
  constructor
  · intro h u hu
    cases hb : u.testBit g with
    | false =>
      rw [xo u hb]
      exact Decidable.byContradiction (fun z => h u hu ⟨hb, z⟩)
    | true =>
      have ul : u ^^^ 2 ^ g < 2 ^ n := Nat.xor_lt_two_pow hu pg
      have ub : (u ^^^ 2 ^ g).testBit g = false := by rw [Nat.testBit_xor, hb, Nat.testBit_two_pow, decide_eq_true rfl]; rfl
      have back : (u ^^^ 2 ^ g) ||| 2 ^ g = u := by
        rw [← xo _ ub, Nat.xor_assoc, Nat.xor_self, Nat.xor_zero]
      refine Decidable.byContradiction (fun z => h _ ul ⟨ub, ?_⟩)
      rw [back]
      exact fun y => z y.symm
  · intro h u hu q
    have := h u hu
    rw [xo u q.1] at this
    exact q.2 this
section
variable {K R C : Nat} {lg : Nat → Nat} {m : Nat} {sw : Bool} (k : Nat) (r : Nat → Nat → Value) (e : Nat) (I : Nat → Nat → Int32) (J : Nat → Nat → Int64) (A : Nat → Nat → Int32) (B : Nat → Nat → Int64)
theorem cM_dead_no (h : MG K R C lg m sw I A B) (hg : ¬ gn (emp (bN K R C) (sN lg m sw 0) (sN lg m sw 1)) ≤ 9) : f_X11_dead [.ref 39] (k + 64, e, (mm_RM r), I, J, A, B) = some (.inl (some (.long 0)), (k + 64, e, (mm_RM r), mm_up I 39 39 (i32 1), J, A, B)) := by
  rw [en_X11_dead, sg_X11_dead_0, cM_few_no k r e I J A B _ _ _ _ h hg, sg_X11_dead_4, if_pos (show bi false = 0 from rfl)]
theorem cM_dead (h : MG K R C lg m sw I A B) (hg : gn (emp (bN K R C) (sN lg m sw 0) (sN lg m sw 1)) ≤ 9) : ∃ I' A' B', f_X11_dead [.ref 39] (k + 64, e, (mm_RM r), I, J, A, B) = some (.inl (some (.long (deadV K R C (sN lg m sw 0) (sN lg m sw 1)))), (k + 64, e, (mm_RM r), I', J, A', B')) ∧ I' 39 39 = i32 0 ∧ FM I I' J J A A' B B' := by
  have hN := bN_le h.1.v
  have h2 := h.fr (FM.th I J A B (i32 0))
  have dv0 : deadV K R C (sN lg m sw 0) (sN lg m sw 1) = ms (fun c => mb (emp (bN K R C) (sN lg m sw 0) (sN lg m sw 1)) c && pdec (∀ u, u < 2 ^ gn (emp (bN K R C) (sN lg m sw 0) (sN lg m sw 1)) → ¬ Qd K R C (emp (bN K R C) (sN lg m sw 0) (sN lg m sw 1)) (sN lg m sw 0) u (cf (mb (emp (bN K R C) (sN lg m sw 0) (sN lg m sw 1))) c))) 36 := rfl
  rw [dv0]
  have hE := emp_EH hN (sN lg m sw 0) (sN lg m sw 1)
  have em := sp_MemptyG k r e (mm_up I 39 39 (i32 0)) J A B h2
  have st0 : f_X11_dead [.ref 39] (k + 64, e, (mm_RM r), I, J, A, B) = mm_aft (mm_pr tb_X11_dead) 17 [some (.ref 39), none, none, none, none, none] [] (f_X11_takesEmpty [.ref 39, .long (emp (bN K R C) (sN lg m sw 0) (sN lg m sw 1))] (k + 64, e, (mm_RM r), mm_up I 39 39 (i32 0), J, A, B)) := by
    rw [en_X11_dead, sg_X11_dead_0, cM_few k r e I J A B _ _ _ _ h hg, sg_X11_dead_4, if_neg (by decide), em, mm_aft_v, sg_X11_dead_14]
  rw [st0]
  clear st0 em dv0
  generalize hEd : emp (bN K R C) (sN lg m sw 0) (sN lg m sw 1) = E at hE hg ⊢
  have p9 := p512 hg
  obtain ⟨A1, t1, t2, t3⟩ := sp_MtakesEmpty k r e (mm_up I 39 39 (i32 0)) J A B (E := E) hN h2.1.cells hg (fun c hc => bool_f (fun z => by have := ((hE c).1 z).1; omega))
  obtain ⟨I2, hI2⟩ : ∃ I2, I2 = mm_up (mm_up I 39 39 (i32 0)) 39 21 (i32 (gn E)) := ⟨_, rfl⟩
  have h21 : I2 39 21 = i32 (gn E) := by rw [hI2, mm_up_eq]
  have fmA : ∀ A', (∀ i, i ≠ 50 → i ≠ 52 → A' i = A i) → FM I I2 J J A A' B B := fun A' hA => (FM.th I J A B (i32 0)).tr (solves_fr (mm_up I 39 39 (i32 0)) J A B hI2 (fun i a b _ => hA i a b) (fun _ _ => rfl))
  obtain ⟨jf, hjf⟩ : ∃ jf : Nat → Bool, jf = fun u => jnB K R C 0 (sN lg m sw 0 ||| spr E u (gn E)) := ⟨_, rfl⟩
  have inn : ∀ (u : Nat), u < 2 ^ gn E → ∀ (dd j : Nat) (A' : Nat → Nat → Int32), (∀ i, i < gn E → A' 50 i = i32 (gc E i)) → (∀ i, i ≠ 50 → i ≠ 52 → A' i = A i) → j + dd = gn E → mm_run (mm_pr tb_X11_dead) (39, [some (.ref 39), some (.int (i32 u)), some (.long (sN lg m sw 0 ||| spr E u j)), none, some (.int (i32 j)), none], [], (k + 64, e, (mm_RM r), I2, J, A', B)) = mm_run (mm_pr tb_X11_dead) (19, [some (.ref 39), some (.int (i32 (u + 1))), some (.long (sN lg m sw 0 ||| spr E u (gn E))), none, some (.int (i32 (gn E))), none], [], (k + 64, e, (mm_RM r), I2, J, mm_up A' 52 u (if jf u = true then i32 0 else i32 1), B)) := by
    intro u hu dd
    induction dd with
    | zero =>
      intro j A' h50 hA hj
      have jn : j = gn E := by omega
      have h4 := h.fr (fmA A' hA)
      rw [sg_X11_dead_39, h21, if_neg (by rw [i32_lt (by omega) (by omega)]; omega), jn]
      simp only [i32_l]
      rw [sp_Mjoins k r e I2 J A' B h4.1 (by decide), mm_aft_v, sg_X11_dead_92]
      have jfu : jf u = jnB K R C 0 (sN lg m sw 0 ||| spr E u (gn E)) := by rw [hjf]
      rw [jfu]
      cases jnB K R C 0 (sN lg m sw 0 ||| spr E u (gn E)) with
      | true =>
        rw [if_neg (show ¬ bi true = 0 by decide)]
        simp (disch := omega) only [i32_l, iN_l, i32_add, i32_mul, i32_r0, i32_r1, run_bi, run_bi', i32_sub, decide_eq_true_eq, bi_rt, bi_em, bi_0, bi_1, i32_lt, i32_eq, iN_ne, iN_lt, iN_nlt, i32_ix, i32_in,  mm_aft_v, mm_aft_n, mm_aft_x, if_pos, if_neg, ite_true, ite_false, if_true, if_false, not_false_eq_true, not_true_eq_false, sg_X11_dead_100]
      | false =>
        rw [if_pos (show bi false = 0 from rfl)]
        simp (disch := omega) only [i32_l, iN_l, i32_add, i32_mul, i32_r0, i32_r1, run_bi, run_bi', i32_sub, decide_eq_true_eq, bi_rt, bi_em, bi_0, bi_1, i32_lt, i32_eq, iN_ne, iN_lt, iN_nlt, i32_ix, i32_in,  mm_aft_v, mm_aft_n, mm_aft_x, if_pos, if_neg, ite_true, ite_false, if_true, if_false, not_false_eq_true, not_true_eq_false, sg_X11_dead_100, Bool.false_eq_true]
    | succ dd ih =>
      intro j A' h50 hA hj
      have un : spr E u (j + 1) = spr E u j ||| (if u.testBit j = true then mbit (gc E j) else 0) := rfl
      rw [← ih (j + 1) A' h50 hA (by omega), un, sg_X11_dead_39, h21, if_pos (by rw [i32_lt (by omega) (by omega)]; omega)]
      simp only [i32_l]
      rw [shr_bit (by omega) (by omega)]
      cases q : u.testBit j with
      | true =>
        simp (disch := omega) only [i32_l, iN_l, i32_add, i32_mul, i32_r0, i32_r1, run_bi, run_bi', i32_sub, decide_eq_true_eq, bi_rt, bi_em, bi_0, bi_1, i32_lt, i32_eq, iN_ne, iN_lt, iN_nlt, i32_ix, i32_in,  mm_aft_v, mm_aft_n, mm_aft_x, if_pos, if_neg, ite_true, ite_false, if_true, if_false, not_false_eq_true, not_true_eq_false, h50 j (by omega), sp_Mbit, sg_X11_dead_69, sg_X11_dead_73, or_assoc64]
      | false =>
        simp (disch := omega) only [i32_l, iN_l, i32_add, i32_mul, i32_r0, i32_r1, run_bi, run_bi', i32_sub, decide_eq_true_eq, bi_rt, bi_em, bi_0, bi_1, i32_lt, i32_eq, iN_ne, iN_lt, iN_nlt, i32_ix, i32_in,  mm_aft_v, mm_aft_n, mm_aft_x, if_pos, if_neg, ite_true, ite_false, if_true, if_false, not_false_eq_true, not_true_eq_false, sg_X11_dead_73, Bool.false_eq_true, or_assoc64, or_zero64]
  have outer : ∀ (dd u : Nat) (A' : Nat → Nat → Int32) (o2 o3 o4 : Option Value), u + dd = 2 ^ gn E → (∀ i, i < gn E → A' 50 i = i32 (gc E i)) → (∀ i, i ≠ 50 → i ≠ 52 → A' i = A i) → (∀ v, v < u → A' 52 v = if jf v = true then i32 0 else i32 1) → ∃ A'' o4', mm_run (mm_pr tb_X11_dead) (19, [some (.ref 39), some (.int (i32 u)), o2, o3, o4, none], [], (k + 64, e, (mm_RM r), I2, J, A', B)) = mm_run (mm_pr tb_X11_dead) (111, [some (.ref 39), some (.long 0), none, some (.int (i32 0)), o4', none], [], (k + 64, e, (mm_RM r), I2, J, A'', B)) ∧ (∀ i, i < gn E → A'' 50 i = i32 (gc E i)) ∧ (∀ i, i ≠ 50 → i ≠ 52 → A'' i = A i) ∧ (∀ v, v < 2 ^ gn E → A'' 52 v = if jf v = true then i32 0 else i32 1) := by
    intro dd
    induction dd with
    | zero =>
      intro u A' o2 o3 o4 hu h50 hA h52
      refine ⟨A', o4, ?_, h50, hA, fun v hv => h52 v (by omega)⟩
      rw [sg_X11_dead_19, h21]
      simp only [i32_l]
      rw [i32_shl (by omega), if_neg (by rw [i32_lt (by omega) (by omega)]; omega)]
    | succ dd ih =>
      intro u A' o2 o3 o4 hu h50 hA h52
      obtain ⟨A'', o4', i1, i2, i3, i4⟩ := ih (u + 1) (mm_up A' 52 u (if jf u = true then i32 0 else i32 1)) (some (.long (sN lg m sw 0 ||| spr E u (gn E)))) none (some (.int (i32 (gn E)))) (by omega) (fun i hi => by rw [mm_up_row _ _ _ _ _ (by decide)]; exact h50 i hi) (fun i a b => by rw [mm_up_row _ _ _ _ _ b]; exact hA i a b) (fun v hv => by
        by_cases q : v = u
        · subst q; rw [mm_up_eq]
        · rw [mm_up_ne2 _ _ _ _ _ _ q]; exact h52 v (by omega))
      refine ⟨A'', o4', ?_, i2, i3, i4⟩
      have b0 : B 45 0 = sN lg m sw 0 ||| spr E u 0 := by
        show _ = sN lg m sw 0 ||| 0
        rw [or_zero64]; exact h.2.2.1
      rw [← i1, ← inn u (by omega) (gn E) 0 A' h50 hA (by omega), sg_X11_dead_19, h21]
      simp only [i32_l]
      rw [i32_shl (by omega), if_pos (by rw [i32_lt (by omega) (by omega)]; omega), i32_ix (by decide), b0]
  obtain ⟨A2, o4, u1, u2, u3, u4⟩ := outer (2 ^ gn E) 0 A1 none none none (by omega) t2 (fun i a _ => t3 i a) (fun v hv => absurd hv (Nat.not_lt_zero _))
  have chk : ∀ (j : Nat), j < gn E → ∀ (dd u : Nat) (b : Bool) (x1 : Int64), u + dd = 2 ^ gn E → (b = true ↔ ∀ v, v < u → jf v = jf (v ^^^ 2 ^ j)) → ∃ b' : Bool, (b' = true ↔ ∀ v, v < 2 ^ gn E → jf v = jf (v ^^^ 2 ^ j)) ∧ mm_run (mm_pr tb_X11_dead) (125, [some (.ref 39), some (.long x1), none, some (.int (i32 j)), some (.int (bi b)), some (.int (i32 u))], [], (k + 64, e, (mm_RM r), I2, J, A2, B)) = mm_run (mm_pr tb_X11_dead) (125, [some (.ref 39), some (.long x1), none, some (.int (i32 j)), some (.int (bi b')), some (.int (i32 (2 ^ gn E)))], [], (k + 64, e, (mm_RM r), I2, J, A2, B)) := by
    intro j hj dd
    induction dd with
    | zero =>
      intro u b x1 hu hb
      have : u = 2 ^ gn E := by omega
      rw [this] at hb ⊢
      exact ⟨b, hb, rfl⟩
    | succ dd ih =>
      intro u b x1 hu hb
      have xl : u ^^^ 2 ^ j < 2 ^ gn E := Nat.xor_lt_two_pow (by omega) (Nat.pow_lt_pow_right (by decide) hj)
      obtain ⟨b', k1, k2⟩ := ih (u + 1) (b && (jf u == jf (u ^^^ 2 ^ j))) x1 (by omega) (by
        rw [Bool.and_eq_true, hb, beq_iff_eq]
        constructor
        · rintro ⟨h1, h2⟩ v hv
          by_cases q : v = u
          · subst q; exact h2
          · exact h1 v (by omega)
        · intro h1
          exact ⟨fun v hv => h1 v (by omega), h1 u (by omega)⟩)
      refine ⟨b', k1, ?_⟩
      have v1 := u4 u (by omega)
      have v2 := u4 _ xl
      rw [← k2, sg_X11_dead_125, h21]
      simp only [i32_l]
      rw [i32_shl (by omega), i32_shl (by omega), i32_xor, if_pos (by rw [i32_lt (by omega) (by omega)]; omega)]
      cases b with
      | false =>
        rw [if_pos (show bi false = i32 0 from rfl), sg_X11_dead_166, sg_X11_dead_167]
        simp only [i32_l, i32_add]
        rfl
      | true =>
        rw [if_neg (show ¬ bi true = i32 0 by decide), if_pos ((i32_in (by omega)).2 (by omega)), if_pos ((i32_in (by omega)).2 (by omega)), i32_ix (by omega), i32_ix (by omega), v1, v2]
        cases w1 : jf u <;> cases w2 : jf (u ^^^ 2 ^ j)
        · rw [if_pos rfl, sg_X11_dead_167]; simp only [i32_l, i32_add]; rfl
        · rw [if_neg (by decide), sg_X11_dead_166, sg_X11_dead_167]; simp only [i32_l, i32_add]; rfl
        · rw [if_neg (by decide), sg_X11_dead_166, sg_X11_dead_167]; simp only [i32_l, i32_add]; rfl
        · rw [if_pos rfl, sg_X11_dead_167]; simp only [i32_l, i32_add]; rfl
  have las : ∀ (dd j : Nat) (x : Int64) (o4 o5 : Option Value), j + dd = gn E → (∀ c, mb x c = true ↔ ∃ i, i < j ∧ gc E i = c ∧ ∀ v, v < 2 ^ gn E → jf v = jf (v ^^^ 2 ^ i)) → mm_run (mm_pr tb_X11_dead) (111, [some (.ref 39), some (.long x), none, some (.int (i32 j)), o4, o5], [], (k + 64, e, (mm_RM r), I2, J, A2, B)) = some (.inl (some (.long (ms (fun c => mb E c && pdec (∀ u, u < 2 ^ gn E → ¬ Qd K R C E (sN lg m sw 0) u (cf (mb E) c))) 36))), (k + 64, e, (mm_RM r), I2, J, A2, B)) := by
    intro dd
    induction dd with
    | zero =>
      intro j x o4 o5 hj hx
      rw [sg_X11_dead_111, h21, if_neg (by rw [i32_lt (by omega) (by omega)]; omega)]
      have : x = ms (fun c => mb E c && pdec (∀ u, u < 2 ^ gn E → ¬ Qd K R C E (sN lg m sw 0) u (cf (mb E) c))) 36 := by
        apply mb_ext
        intro c hc
        rw [mb_ms _ _ 36 (by decide), Bool.eq_iff_iff, hx c, Bool.and_eq_true, Bool.and_eq_true, decide_eq_true_eq, pdec_t]
        constructor
        · rintro ⟨i, h1, h2, h3⟩
          have g := gc_spec (E := E) (k := i) (by omega)
          rw [← h2]
          refine ⟨g.1, g.2.1, ?_⟩
          rw [g.2.2, Qd_xor (by omega)]
          rw [hjf] at h3
          exact h3
        · rintro ⟨h1, h2, h3⟩
          have g := gc_of h1 h2
          rw [Qd_xor g.1] at h3
          refine ⟨_, by omega, g.2, ?_⟩
          rw [hjf]
          exact h3
      rw [this]
    | succ dd ih =>
      intro j x o4 o5 hj hx
      have g := gc_spec (E := E) (k := j) (by omega)
      obtain ⟨b', k1, k2⟩ := chk j (by omega) (2 ^ gn E) 0 true x (by omega) ⟨fun _ v hv => absurd hv (Nat.not_lt_zero _), fun _ => rfl⟩
      have next := ih (j + 1) (x ||| (if b' = true then mbit (gc E j) else 0)) (some (.int (bi b'))) (some (.int (i32 (2 ^ gn E)))) (by omega) (fun c => by
        rw [mb_or, Bool.or_eq_true, hx c]
        constructor
        · rintro (⟨i, h1, h2, h3⟩ | q)
          · exact ⟨i, by omega, h2, h3⟩
          · cases hb : b' with
            | true =>
              rw [hb, if_pos rfl, mb_bit _ _ (by omega), decide_eq_true_eq] at q
              exact ⟨j, by omega, q, k1.1 hb⟩
            | false => rw [hb, if_neg (by decide), mb_zero] at q; cases q
        · rintro ⟨i, h1, h2, h3⟩
          by_cases e : i = j
          · subst e
            right
            rw [if_pos (k1.2 h3), mb_bit _ _ (by omega), decide_eq_true_eq]; exact h2
          · exact Or.inl ⟨i, by omega, h2, h3⟩)
      rw [← next, sg_X11_dead_111, h21, if_pos (by rw [i32_lt (by omega) (by omega)]; omega)]
      refine Eq.trans k2 ?_
      rw [sg_X11_dead_125, h21]
      simp only [i32_l]
      rw [i32_shl (by omega), if_neg (by rw [i32_lt (by omega) (by omega)]; omega)]
      cases b' with
      | true => simp (disch := omega) only [i32_l, iN_l, i32_add, i32_mul, i32_r0, i32_r1, run_bi, run_bi', i32_sub, decide_eq_true_eq, bi_rt, bi_em, bi_0, bi_1, i32_lt, i32_eq, iN_ne, iN_lt, iN_nlt, i32_ix, i32_in,  mm_aft_v, mm_aft_n, mm_aft_x, if_pos, if_neg, ite_true, ite_false, if_true, if_false, not_false_eq_true, not_true_eq_false, u2 j (by omega), sp_Mbit, sg_X11_dead_190, sg_X11_dead_194]
      | false => simp (disch := omega) only [i32_l, iN_l, i32_add, i32_mul, i32_r0, i32_r1, run_bi, run_bi', i32_sub, decide_eq_true_eq, bi_rt, bi_em, bi_0, bi_1, i32_lt, i32_eq, iN_ne, iN_lt, iN_nlt, i32_ix, i32_in,  mm_aft_v, mm_aft_n, mm_aft_x, if_pos, if_neg, ite_true, ite_false, if_true, if_false, not_false_eq_true, not_true_eq_false, sg_X11_dead_194, Bool.false_eq_true]
  refine ⟨I2, A2, B, ?_, by rw [hI2, mm_up_ne2 _ _ _ _ _ _ (by decide), mm_up_eq], fmA A2 u3⟩
  rw [t1, mm_aft_n, ← hI2, sg_X11_dead_17]
  refine Eq.trans u1 ?_
  exact las (gn E) 0 0 o4 none (by omega) (fun c => by
    rw [mb_zero]
    exact ⟨fun z => Bool.noConfusion z, fun ⟨i, h1, _⟩ => absurd h1 (Nat.not_lt_zero _)⟩)
end
