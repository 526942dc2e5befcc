/-! wins and dead cells, asked of the class -/
theorem winM_lt (K R C : Nat) (s0 s1 : Int64) (tu : Nat) : ∀ k, winM K R C s0 s1 tu k < 2 ^ k := by
  intro k
  induction k with
  | zero => exact Nat.one_pos
  | succ k ih =>
    have p : 2 ^ k < 2 ^ (k + 1) := Nat.pow_lt_pow_right (by decide) (by omega)
    refine Nat.or_lt_two_pow (Nat.lt_trans ih p) ?_
    split
    · exact p
    · exact Nat.pow_pos (by decide)
theorem p512 {n : Nat} (h : n ≤ 9) : 2 ^ n ≤ 512 := Nat.pow_le_pow_right (n := 2) (by decide) h
theorem mvV_bd (K R C : Nat) (s0 s1 : Int64) (tu k : Nat) : -99 ≤ mvV K R C s0 s1 tu k ∧ mvV K R C s0 s1 tu k ≤ 99 := by
  unfold mvV
  have z := Sc_bd (K := K) (R := R) (C := C) (gn (emp (bN K R C) s0 s1) - 1) (1 - tu) (pt tu 0 (gc (emp (bN K R C) s0 s1) k) s0) (pt tu 1 (gc (emp (bN K R C) s0 s1) k) s1)
  exact bk_bd z.1 z.2
/-- that a cell matters in a filling -/
def Qd (K R C : Nat) (E s0 : Int64) (u g : Nat) : Prop := u.testBit g = false ∧ jnB K R C 0 (s0 ||| spr E u (gn E)) ≠ jnB K R C 0 (s0 ||| spr E (u ||| 2 ^ g) (gn E))
noncomputable def deadV (K R C : Nat) (s0 s1 : Int64) : Int64 := ms (fun c => mb (emp (bN K R C) s0 s1) c && pdec (∀ u, u < 2 ^ gn (emp (bN K R C) s0 s1) → ¬ Qd K R C (emp (bN K R C) s0 s1) s0 u (cf (mb (emp (bN K R C) s0 s1)) c))) 36
section
variable {K R C : Nat} (e : Nat) (B : Nat → Nat → Int64)
theorem sp_winsOf (I : Nat → Nat → Int32) (J : Nat → Nat → Int64) (A : Nat → Nat → Int32) (hb : CB K R C I J A B) (hq : BQ K R C I J A B) (s0 s1 : Int64) {tu : Nat} (ht : tu < 2) (hg : gn (emp (bN K R C) s0 s1) ≤ 9) : ∃ I' J' A', f_X0_winsOf [.ref 9, .long s0, .long s1, .int (i32 tu)] (79, e, mm_R0, I, J, A, B) = some (.inl (some (.long (winV K R C s0 s1 tu))), (79, e, mm_R0, I', J', A', B)) ∧ BQ K R C I' J' A' B ∧ F2 I I' J J' A A' := by
  obtain ⟨I1, J1, A1, a1, a2, a3, a4, a5, a6⟩ := sp_take e B I J A hb hq s0 s1 ht hg
  obtain ⟨A2, b1, b2, b3⟩ := sp_joinedAlready e B I1 J1 A1 a2
  have f2 : F2 I I1 J J1 A A1 := ⟨a4, a5, a6⟩
  rw [en_X0_winsOf, sg_X0_winsOf_0, a1, mm_aft_n, sg_X0_winsOf_8, b1, mm_aft_v, sg_X0_winsOf_12]
  unfold jnd winV
  cases j0 : jnB K R C 0 s0 with
  | true =>
    refine ⟨I1, J1, A2, ?_, b2.q B ht a3, f2.tr b3⟩
    rw [if_neg (show ¬ (bif true then i32 0 else bif jnB K R C 1 s1 then i32 1 else iN) = -1 by show ¬ i32 0 = -1; decide), if_pos rfl]
  | false =>
    cases j1 : jnB K R C 1 s1 with
    | true =>
      refine ⟨I1, J1, A2, ?_, b2.q B ht a3, f2.tr b3⟩
      rw [if_neg (show ¬ (bif false then i32 0 else bif true then i32 1 else iN) = -1 by decide), if_neg (by decide), if_pos rfl]
    | false =>
      rw [if_pos (show (bif false then i32 0 else bif false then i32 1 else iN) = -1 from rfl), if_neg (by decide), if_neg (by decide)]
      obtain ⟨n, hn⟩ : ∃ n, n = gn (emp (bN K R C) s0 s1) := ⟨_, rfl⟩
      have hj : ∀ p, p < 2 → jnB K R C p (psn s0 s1 p ||| spr (emp (bN K R C) s0 s1) 0 (gn (emp (bN K R C) s0 s1))) = false := by
        intro p hp
        rw [psn_0]
        have : p = 0 ∨ p = 1 := by omega
        rcases this with q | q
        · subst q; exact j0
        · subst q; exact j1
      have L : ∀ (dd k : Nat) (A : Nat → Nat → Int32), k + dd = n → BP K R C (emp (bN K R C) s0 s1) s0 s1 tu I1 J1 A B → ∃ A', mm_run (mm_pr tb_X0_winsOf) (24, [some (.ref 9), some (.long s0), none, some (.long s1), none, some (.int (i32 tu)), some (.int (i32 (winM K R C s0 s1 tu k))), some (.int (i32 k))], [], (79, e, mm_R0, I1, J1, A, B)) = some (.inl (some (.long (spr (emp (bN K R C) s0 s1) (winM K R C s0 s1 tu n) (gn (emp (bN K R C) s0 s1))))), (79, e, mm_R0, I1, J1, A', B)) ∧ BP K R C (emp (bN K R C) s0 s1) s0 s1 tu I1 J1 A' B ∧ F1 A A' := by
        intro dd
        induction dd with
        | zero =>
          intro k A hk h
          have wl := winM_lt K R C s0 s1 tu k
          have p9 := p512 hg
          have hc : I1 10 2 = i32 (gn (emp (bN K R C) s0 s1)) := h.2.1.2.1
          have kn : k = n := by omega
          refine ⟨A, ?_, h, fun _ _ _ => rfl⟩
          rw [kn, hn] at wl
          rw [sg_X0_winsOf_24, hc, if_neg (by rw [i32_lt (by omega) (by omega)]; omega), sp_spread_10 e I1 J1 A B h.2.1 (by rw [kn, hn]; omega), mm_aft_v, sg_X0_winsOf_81, kn]
        | succ dd ih =>
          intro k A hk h
          have hc : I1 10 2 = i32 (gn (emp (bN K R C) s0 s1)) := h.2.1.2.1
          have hT : I1 9 7 = i32 tu := h.2.2.2.2.2.1
          obtain ⟨f, hf⟩ : ∃ f, gn (emp (bN K R C) s0 s1) = f + 1 := ⟨gn (emp (bN K R C) s0 s1) - 1, by omega⟩
          have hsc := sp_score e I1 J1 B (emp_EH (bN_le hb.v) s0 s1) (tu := tu) f 10 (by omega)
          obtain ⟨A3, c1, c2, c3⟩ := sp_scoreBehind e I1 J1 B hsc A h (m := 0) (h' := 0) (t := tu) (d := 0) (k := k) ht (by decide) (by decide) (by decide) (by omega) (Nat.zero_testBit _) (Nat.zero_testBit _) (by rw [fr_00]; exact hf) (by rw [hf]; omega) (by omega) (hj (1 - tu) (by omega))
          have mv : bk (SR K R C f (1 - tu) (psn s0 s1 (1 - tu) ||| spr (emp (bN K R C) s0 s1) 0 (gn (emp (bN K R C) s0 s1))) (psn s0 s1 tu ||| spr (emp (bN K R C) s0 s1) 0 (gn (emp (bN K R C) s0 s1)) ||| mbit (gc (emp (bN K R C) s0 s1) k))) = mvV K R C s0 s1 tu k := by
            rw [psn_0, psn_0]
            unfold mvV
            rw [show gn (emp (bN K R C) s0 s1) - 1 = f by omega]
            have : tu = 0 ∨ tu = 1 := by omega
            rcases this with q | q
            · subst q
              show bk (SR K R C f 1 _ _) = _
              rw [SR_t1]; rfl
            · subst q
              show bk (SR K R C f 0 _ _) = _
              rw [SR_t0]; rfl
          rw [mv, Nat.zero_or] at c1
          obtain ⟨A4, d1, d2, d3⟩ := ih (k + 1) A3 (by omega) c2
          refine ⟨A4, ?_, d2, c3.tr d3⟩
          have vb := mvV_bd K R C s0 s1 tu k
          have un : winM K R C s0 s1 tu (k + 1) = winM K R C s0 s1 tu k ||| (if 0 < mvV K R C s0 s1 tu k then 2 ^ k else 0) := rfl
          rw [← d1, un, sg_X0_winsOf_24, hc, if_pos (by rw [i32_lt (by omega) (by omega)]; omega), hT]
          simp only [i32_l]
          rw [i32_shl (by omega), c1, mm_aft_v, sg_X0_winsOf_52]
          have c : ((0 : Int32) < si (mvV K R C s0 s1 tu k)) ↔ 0 < mvV K R C s0 s1 tu k := by rw [show (0 : Int32) = si 0 by decide, si_lt (by decide) (by decide) (by omega) (by omega)]
          by_cases q : 0 < mvV K R C s0 s1 tu k
          · rw [if_pos (c.2 q), if_pos q, sg_X0_winsOf_63]
            simp only [i32_l]
            rw [i32_shl (by omega), i32_or, i32_add]
          · rw [if_neg (fun y => q (c.1 y)), if_neg q, sg_X0_winsOf_63]
            simp only [i32_l]
            rw [i32_or, i32_add]
      obtain ⟨A4, d1, d2, d3⟩ := L n 0 A2 (by omega) b2
      refine ⟨I1, J1, A4, ?_, d2.q B ht a3, (f2.tr b3).tr d3⟩
      rw [hn] at d1
      exact d1
theorem sp_deadOf (I : Nat → Nat → Int32) (J : Nat → Nat → Int64) (A : Nat → Nat → Int32) (hb : CB K R C I J A B) (hq : BQ K R C I J A B) (s0 s1 : Int64) {tu : Nat} (ht : tu < 2) (hg : gn (emp (bN K R C) s0 s1) ≤ 9) : ∃ I' J' A', f_X0_deadOf [.ref 9, .long s0, .long s1, .int (i32 tu)] (79, e, mm_R0, I, J, A, B) = some (.inl (some (.long (deadV K R C s0 s1))), (79, e, mm_R0, I', J', A', B)) ∧ BQ K R C I' J' A' B ∧ F2 I I' J J' A A' := by
  obtain ⟨I1, J1, A1, a1, a2, a3, a4, a5, a6⟩ := sp_take e B I J A hb hq s0 s1 ht hg
  have f2 : F2 I I1 J J1 A A1 := ⟨a4, a5, a6⟩
  rw [en_X0_deadOf, sg_X0_deadOf_0, a1, mm_aft_n, sg_X0_deadOf_8]
  obtain ⟨E, hE⟩ : ∃ E, E = emp (bN K R C) s0 s1 := ⟨_, rfl⟩
  have dv : deadV K R C s0 s1 = ms (fun c => mb E c && pdec (∀ u, u < 2 ^ gn E → ¬ Qd K R C E s0 u (cf (mb E) c))) 36 := by rw [hE]; rfl
  rw [dv]
  rw [← hE] at a2 hg
  have p9 := p512 hg
  rw [sp_full_10 e I1 J1 A1 B a2.2.1, mm_aft_v, sg_X0_deadOf_18]
  have inner : ∀ (s : Nat), s < 2 ^ gn E → ∀ (dd g al : Nat) (A : Nat → Nat → Int32), g + dd = gn E → BP K R C E s0 s1 tu I1 J1 A B → al < 512 → (∀ j, j < gn E → (al.testBit j = true ↔ ((∃ u, u < s ∧ Qd K R C E s0 u j) ∨ (j < g ∧ Qd K R C E s0 s j)))) → ∃ (al' : Nat) (A' : Nat → Nat → Int32), mm_run (mm_pr tb_X0_deadOf) (41, [some (.ref 9), some (.long s0), none, some (.long s1), none, some (.int (i32 tu)), some (.int (i32 al)), some (.int (i32 (2 ^ gn E - 1))), some (.int (i32 s)), some (.int (i32 g))], [], (79, e, mm_R0, I1, J1, A, B)) = mm_run (mm_pr tb_X0_deadOf) (23, [some (.ref 9), some (.long s0), none, some (.long s1), none, some (.int (i32 tu)), some (.int (i32 al')), some (.int (i32 (2 ^ gn E - 1))), some (.int (i32 (s + 1))), some (.int (i32 (gn E)))], [], (79, e, mm_R0, I1, J1, A', B)) ∧ BP K R C E s0 s1 tu I1 J1 A' B ∧ F1 A A' ∧ al' < 512 ∧ (∀ j, j < gn E → (al'.testBit j = true ↔ ∃ u, u < s + 1 ∧ Qd K R C E s0 u j)) := by
    intro s hs dd
    induction dd with
    | zero =>
      intro g al A hgd h hal hj
      have hc : I1 10 2 = i32 (gn E) := h.2.1.2.1
      refine ⟨al, A, ?_, h, fun _ _ _ => rfl, hal, fun j j1 => ?_⟩
      · rw [sg_X0_deadOf_41, hc, if_neg (by rw [i32_lt (by omega) (by omega)]; omega)]
        simp only [i32_l]
        rw [i32_add, show g = gn E by omega]
      · rw [hj j j1]
        constructor
        · rintro (⟨u, u1, u2⟩ | ⟨_, u2⟩)
          · exact ⟨u, by omega, u2⟩
          · exact ⟨s, by omega, u2⟩
        · rintro ⟨u, u1, u2⟩
          by_cases q : u = s
          · subst q; exact Or.inr ⟨by omega, u2⟩
          · exact Or.inl ⟨u, by omega, u2⟩
    | succ dd ih =>
      intro g al A hgd h hal hj
      have hc : I1 10 2 = i32 (gn E) := h.2.1.2.1
      have go : ∀ (al' : Nat) (A' : Nat → Nat → Int32), BP K R C E s0 s1 tu I1 J1 A' B → F1 A A' → al' < 512 → (∀ j, j < gn E → (al'.testBit j = true ↔ ((∃ u, u < s ∧ Qd K R C E s0 u j) ∨ (j < g + 1 ∧ Qd K R C E s0 s j)))) → ∃ (al'' : Nat) (A'' : Nat → Nat → Int32), mm_run (mm_pr tb_X0_deadOf) (106, [some (.ref 9), some (.long s0), none, some (.long s1), none, some (.int (i32 tu)), some (.int (i32 al')), some (.int (i32 (2 ^ gn E - 1))), some (.int (i32 s)), some (.int (i32 g))], [], (79, e, mm_R0, I1, J1, A', B)) = mm_run (mm_pr tb_X0_deadOf) (23, [some (.ref 9), some (.long s0), none, some (.long s1), none, some (.int (i32 tu)), some (.int (i32 al'')), some (.int (i32 (2 ^ gn E - 1))), some (.int (i32 (s + 1))), some (.int (i32 (gn E)))], [], (79, e, mm_R0, I1, J1, A'', B)) ∧ BP K R C E s0 s1 tu I1 J1 A'' B ∧ F1 A A'' ∧ al'' < 512 ∧ (∀ j, j < gn E → (al''.testBit j = true ↔ ∃ u, u < s + 1 ∧ Qd K R C E s0 u j)) := by
        intro al' A' h1 h2 h3 h4
        obtain ⟨al'', A'', i1, i2, i3, i4⟩ := ih (g + 1) al' A' (by omega) h1 h3 h4
        refine ⟨al'', A'', ?_, i2, h2.tr i3, i4⟩
        rw [← i1, sg_X0_deadOf_106]
        simp only [i32_l, i32_add]
      have same : (al.testBit g = true ∨ ¬ Qd K R C E s0 s g) → ∀ j, j < gn E → (al.testBit j = true ↔ ((∃ u, u < s ∧ Qd K R C E s0 u j) ∨ (j < g + 1 ∧ Qd K R C E s0 s j))) := by
        intro hh j j1
        rw [hj j j1]
        constructor
        · rintro (u | ⟨u1, u2⟩)
          · exact Or.inl u
          · exact Or.inr ⟨by omega, u2⟩
        · rintro (u | ⟨u1, u2⟩)
          · exact Or.inl u
          · by_cases q : j = g
            · subst q
              rcases hh with hh | hh
              · exact (hj j j1).1 hh
              · exact absurd u2 hh
            · exact Or.inr ⟨by omega, u2⟩
      rw [sg_X0_deadOf_41, hc, if_pos (by rw [i32_lt (by omega) (by omega)]; omega), sp_has _ _ (by omega), mm_aft_v, mb_i32 (by omega), sg_X0_deadOf_61]
      cases q1 : al.testBit g with
      | true =>
        rw [if_neg (show ¬ bi true = 0 by decide)]
        exact go al A h (fun _ _ _ => rfl) hal (same (Or.inl q1))
      | false =>
        rw [if_pos (show bi false = 0 from rfl), sp_has _ _ (by omega), mm_aft_v, mb_i32 (by omega), sg_X0_deadOf_72]
        cases q2 : s.testBit g with
        | true =>
          rw [if_neg (show ¬ bi true = 0 by decide)]
          exact go al A h (fun _ _ _ => rfl) hal (same (Or.inr (fun z => by rw [z.1] at q2; cases q2)))
        | false =>
          rw [if_pos (show bi false = 0 from rfl)]
          have sg9 : s ||| 2 ^ g < 512 := or_lt512 (by omega) (by omega)
          obtain ⟨A2, b1, b2, b3⟩ := sp_joins e I1 J1 B A h (p := 0) (a := s) (by decide) (by omega)
          obtain ⟨A3, c1, c2, c3⟩ := sp_joins e I1 J1 B A2 b2 (p := 0) (a := s ||| 2 ^ g) (by decide) sg9
          simp only [i32_l]
          rw [b1, mm_aft_v, sg_X0_deadOf_82]
          simp only [i32_l]
          rw [i32_shl (by omega), i32_or, c1, mm_aft_v, sg_X0_deadOf_94]
          have ps : psn s0 s1 0 = s0 := rfl
          rw [ps]
          by_cases q3 : jnB K R C 0 (s0 ||| spr E s (gn E)) = jnB K R C 0 (s0 ||| spr E (s ||| 2 ^ g) (gn E))
          · rw [if_pos (by rw [q3])]
            exact go al A3 c2 (b3.tr c3) hal (same (Or.inr (fun z => z.2 q3)))
          · have q4 : ¬ bi (jnB K R C 0 (s0 ||| spr E s (gn E))) = bi (jnB K R C 0 (s0 ||| spr E (s ||| 2 ^ g) (gn E))) := by
              revert q3
              cases jnB K R C 0 (s0 ||| spr E s (gn E)) <;> cases jnB K R C 0 (s0 ||| spr E (s ||| 2 ^ g) (gn E)) <;> decide
            rw [if_neg q4]
            simp only [i32_l]
            rw [i32_shl (by omega), i32_or]
            refine go (al ||| 2 ^ g) A3 c2 (b3.tr c3) (or_lt512 hal (by omega)) (fun j j1 => ?_)
            rw [Nat.testBit_or, Nat.testBit_two_pow, Bool.or_eq_true, decide_eq_true_eq, hj j j1]
            constructor
            · rintro ((u | ⟨u1, u2⟩) | u)
              · exact Or.inl u
              · exact Or.inr ⟨by omega, u2⟩
              · subst u; exact Or.inr ⟨by omega, q2, q3⟩
            · rintro (u | ⟨u1, u2⟩)
              · exact Or.inl (Or.inl u)
              · by_cases q : g = j
                · exact Or.inr q
                · exact Or.inl (Or.inr ⟨by omega, u2⟩)
  have outer : ∀ (dd s al : Nat) (o : Option Value) (A : Nat → Nat → Int32), s + dd = 2 ^ gn E → BP K R C E s0 s1 tu I1 J1 A B → al < 512 → (∀ j, j < gn E → (al.testBit j = true ↔ ∃ u, u < s ∧ Qd K R C E s0 u j)) → ∃ A', mm_run (mm_pr tb_X0_deadOf) (23, [some (.ref 9), some (.long s0), none, some (.long s1), none, some (.int (i32 tu)), some (.int (i32 al)), some (.int (i32 (2 ^ gn E - 1))), some (.int (i32 s)), o], [], (79, e, mm_R0, I1, J1, A, B)) = some (.inl (some (.long (ms (fun c => mb E c && pdec (∀ u, u < 2 ^ gn E → ¬ Qd K R C E s0 u (cf (mb E) c))) 36))), (79, e, mm_R0, I1, J1, A', B)) ∧ BP K R C E s0 s1 tu I1 J1 A' B ∧ F1 A A' := by
    intro dd
    induction dd with
    | zero =>
      intro s al o A hs h hal hj
      have pp : 1 ≤ 2 ^ gn E := Nat.one_le_two_pow
      refine ⟨A, ?_, h, fun _ _ _ => rfl⟩
      rw [sg_X0_deadOf_23, if_pos (show i32 (2 ^ gn E - 1) < i32 s by rw [i32_lt (by omega) (by omega)]; omega), sg_X0_deadOf_118]
      rw [show i32 (2 ^ gn E - 1) &&& (i32 al ^^^ (-1 : Int32)) = i32 (ndf (2 ^ gn E - 1) al) from i32_ndf _ _]
      have nl : ndf (2 ^ gn E - 1) al < 512 := ndf_lt512 hg
      rw [sp_spread_10 e I1 J1 A B h.2.1 (by omega), mm_aft_v, sg_X0_deadOf_132]
      have : spr E (ndf (2 ^ gn E - 1) al) (gn E) = ms (fun c => mb E c && pdec (∀ u, u < 2 ^ gn E → ¬ Qd K R C E s0 u (cf (mb E) c))) 36 := by
        apply mb_ext
        intro c hc
        rw [mb_ms _ _ 36 (by decide), Bool.eq_iff_iff, spr_mem, Bool.and_eq_true, Bool.and_eq_true, decide_eq_true_eq, pdec_t]
        constructor
        · rintro ⟨h1, h2, h3⟩
          have gl := gc_of h1 h2
          rw [tb_ndf, Bool.and_eq_true, Bool.not_eq_true'] at h3
          refine ⟨h1, h2, fun u u1 u2 => ?_⟩
          have := (hj _ gl.1).2 ⟨u, by omega, u2⟩
          rw [h3.2] at this; cases this
        · rintro ⟨h1, h2, h3⟩
          have gl := gc_of h1 h2
          refine ⟨h1, h2, ?_⟩
          rw [tb_ndf, Nat.testBit_two_pow_sub_one, decide_eq_true gl.1, Bool.true_and, Bool.not_eq_true']
          refine bool_f (fun z => ?_)
          obtain ⟨u, u1, u2⟩ := (hj _ gl.1).1 z
          exact h3 u (by omega) u2
      rw [this]
    | succ dd ih =>
      intro s al o A hs h hal hj
      obtain ⟨al', A2, i1, i2, i3, i4, i5⟩ := inner s (by omega) (gn E) 0 al A (by omega) h hal (fun j j1 => by
        rw [hj j j1]
        exact ⟨fun u => Or.inl u, fun u => u.resolve_right (fun z => absurd z.1 (Nat.not_lt_zero _))⟩)
      obtain ⟨A3, k1, k2, k3⟩ := ih (s + 1) al' _ A2 (by omega) i2 i4 i5
      refine ⟨A3, ?_, k2, i3.tr k3⟩
      rw [← k1, ← i1, sg_X0_deadOf_23, if_neg (show ¬ i32 (2 ^ gn E - 1) < i32 s by rw [i32_lt (by omega) (by omega)]; omega), if_pos (show i32 s < (512 : Int32) by rw [show (512 : Int32) = i32 512 from rfl, i32_lt (by omega) (by omega)]; omega)]
      simp only [i32_l]
  obtain ⟨A4, d1, d2, d3⟩ := outer (2 ^ gn E) 0 0 none A1 (by omega) a2 (by decide) (fun j j1 => by
    rw [Nat.zero_testBit]
    exact ⟨fun u => Bool.noConfusion u, fun ⟨u, u1, _⟩ => absurd u1 (Nat.not_lt_zero _)⟩)
  rw [hE] at d2
  exact ⟨I1, J1, A4, d1, d2.q B ht a3, f2.tr d3⟩
end
