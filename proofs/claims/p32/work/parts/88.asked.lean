/-! best play, asked of the class: its answers -/
def emp (N : Nat) (s0 s1 : Int64) : Int64 := (mbit N - 1) &&& ((s0 ||| s1) ^^^ (-1))
theorem mb_alln_t : ∀ n : Fin 37, ∀ c : Fin 64, mb (mbit n.1 - 1) c.1 = decide (c.1 < n.1) := by decide +kernel
theorem mb_alln {n : Nat} (h : n ≤ 36) (c : Nat) : mb (mbit n - 1) c = decide (c < n) := by
  by_cases q : c < 64
  · exact mb_alln_t ⟨n, by omega⟩ ⟨c, q⟩
  · rw [mb_hi _ _ (by omega), decide_eq_false (by omega)]
theorem emp_EH {N : Nat} (h : N ≤ 36) (s0 s1 : Int64) : EH N (emp N s0 s1) s0 s1 := by
  intro c
  unfold emp
  rw [mb_and, mb_alln h]
  by_cases q : c < N
  · rw [decide_eq_true q, Bool.true_and, mb_cpl _ _ (by omega), mb_or]
    cases mb s0 c <;> cases mb s1 c <;> simp [q]
  · rw [decide_eq_false q, Bool.false_and]
    exact ⟨fun h => Bool.noConfusion h, fun h => absurd h.1 q⟩
theorem emp_M {N : Nat} (h : N ≤ 36) (s0 s1 : Int64) : (((mbit N - 1) &&& (s0 ^^^ (-1))) &&& (s1 ^^^ (-1))) = emp N s0 s1 := by
  apply mb_ext
  intro c hc
  unfold emp
  rw [mb_and, mb_and, mb_and, mb_cpl _ _ hc, mb_cpl _ _ hc, mb_cpl _ _ hc, mb_or]
  cases mb (mbit N - 1) c <;> cases mb s0 c <;> cases mb s1 c <;> rfl
abbrev BQ (K R C : Nat) (I : Nat → Nat → Int32) (J : Nat → Nat → Int64) (A : Nat → Nat → Int32) (B : Nat → Nat → Int64) : Prop := (∀ a, a < 512 → A 12 a = i32 (ter a)) ∧ (I 9 4 = i32 0 ∨ (I 9 4 = i32 1 ∧ ∃ s0 s1 tu, tu < 2 ∧ BP K R C (emp (bN K R C) s0 s1) s0 s1 tu I J A B))
noncomputable def bestV (K R C : Nat) (s0 s1 : Int64) (tu : Nat) : Nat := if jnB K R C 0 s0 = true then 0 else if jnB K R C 1 s1 = true then 1 else if 0 < Sc K R C (gn (emp (bN K R C) s0 s1)) tu s0 s1 then tu else 1 - tu
noncomputable def lastV (K R C : Nat) (s0 s1 : Int64) (tu : Nat) : Int := if jnB K R C 0 s0 = true then 0 else if jnB K R C 1 s1 = true then 0 else if 0 < Sc K R C (gn (emp (bN K R C) s0 s1)) tu s0 s1 then 100 - Sc K R C (gn (emp (bN K R C) s0 s1)) tu s0 s1 else 100 + Sc K R C (gn (emp (bN K R C) s0 s1)) tu s0 s1
/-- what a move to a gap is worth -/
noncomputable def mvV (K R C : Nat) (s0 s1 : Int64) (tu k : Nat) : Int := bk (Sc K R C (gn (emp (bN K R C) s0 s1) - 1) (1 - tu) (pt tu 0 (gc (emp (bN K R C) s0 s1) k) s0) (pt tu 1 (gc (emp (bN K R C) s0 s1) k) s1))
noncomputable def winM (K R C : Nat) (s0 s1 : Int64) (tu : Nat) : Nat → Nat
  | 0 => 0
  | k + 1 => winM K R C s0 s1 tu k ||| (if 0 < mvV K R C s0 s1 tu k then 2 ^ k else 0)
noncomputable def winV (K R C : Nat) (s0 s1 : Int64) (tu : Nat) : Int64 := if jnB K R C 0 s0 = true then 0 else if jnB K R C 1 s1 = true then 0 else spr (emp (bN K R C) s0 s1) (winM K R C s0 s1 tu (gn (emp (bN K R C) s0 s1))) (gn (emp (bN K R C) s0 s1))
theorem fr_00 (E : Int64) : fr E 0 0 = gn E := by
  have h : ∀ n, cf (fun k => !(0 : Nat).testBit k && !(0 : Nat).testBit k) n = n := by
    intro n
    induction n with
    | zero => rfl
    | succ n ih => rw [cf_s (by simp), ih]
  exact h _
theorem psn_0 (E s0 s1 : Int64) (p : Nat) : psn s0 s1 p ||| spr E 0 (gn E) = psn s0 s1 p := by rw [spr_zero, or_zero64]
section
variable {K R C : Nat} (e : Nat) (B : Nat → Nat → Int64)
theorem sp_take (I : Nat → Nat → Int32) (J : Nat → Nat → Int64) (A : Nat → Nat → Int32) (hb : CB K R C I J A B) (hq : BQ K R C I J A B) (s0 s1 : Int64) {tu : Nat} (ht : tu < 2) (hg : gn (emp (bN K R C) s0 s1) ≤ 9) : ∃ I' J' A', f_X0_take [.ref 9, .long s0, .long s1, .int (i32 tu)] (79, e, mm_R0, I, J, A, B) = some (.inl none, (79, e, mm_R0, I', J', A', B)) ∧ BP K R C (emp (bN K R C) s0 s1) s0 s1 tu I' J' A' B ∧ I' 9 4 = i32 1 ∧ (∀ i, i ≠ 9 → i ≠ 10 → I' i = I i) ∧ (∀ i, i ≠ 9 → J' i = J i) ∧ (∀ i, i ≠ 11 → i ≠ 13 → i ≠ 14 → A' i = A i) := by
  have new : ∃ I' J' A', mm_run (mm_pr tb_X0_take) (35, [some (.ref 9), some (.long s0), none, some (.long s1), none, some (.int (i32 tu))], [], (79, e, mm_R0, I, J, A, B)) = some (.inl none, (79, e, mm_R0, I', J', A', B)) ∧ BP K R C (emp (bN K R C) s0 s1) s0 s1 tu I' J' A' B ∧ I' 9 4 = i32 1 ∧ (∀ i, i ≠ 9 → i ≠ 10 → I' i = I i) ∧ (∀ i, i ≠ 9 → J' i = J i) ∧ (∀ i, i ≠ 11 → i ≠ 13 → i ≠ 14 → A' i = A i) := by
    obtain ⟨A1, a1, a2, a3⟩ := sp_take_10 e (mm_up (mm_up I 9 4 (1 : Int32)) 9 7 (i32 tu)) (mm_up (mm_up J 9 5 s0) 9 6 s1) A B hg
    refine ⟨mm_up (mm_up (mm_up I 9 4 (1 : Int32)) 9 7 (i32 tu)) 10 2 (i32 (gn (emp (bN K R C) s0 s1))), mm_up (mm_up J 9 5 s0) 9 6 s1, mm_put (mm_put A1 13 (fun j => if j < 1024 then (0 : Int32).toInt8.toInt32 else A1 13 j)) 14 (fun j => if j < 19683 then (0 : Int32).toInt8.toInt32 else mm_put A1 13 (fun j => if j < 1024 then (0 : Int32).toInt8.toInt32 else A1 13 j) 14 j), ?_, ?_, ?_, ?_, ?_, ?_⟩
    · rw [sg_X0_take_35, hb.all]
      show mm_aft _ 78 _ _ (f_X2_take [.ref 10, .long (emp (bN K R C) s0 s1)] _) = _
      rw [a1, mm_aft_n, sg_X0_take_78, sp_J7_fill_031fb_13, mm_aft_n, sg_X0_take_86, sp_J7_fill_031fb_14, mm_aft_n, sg_X0_take_94]
    · have rw1 : ∀ i, i ≠ 11 → i ≠ 13 → i ≠ 14 → mm_put (mm_put A1 13 (fun j => if j < 1024 then (0 : Int32).toInt8.toInt32 else A1 13 j)) 14 (fun j => if j < 19683 then (0 : Int32).toInt8.toInt32 else mm_put A1 13 (fun j => if j < 1024 then (0 : Int32).toInt8.toInt32 else A1 13 j) 14 j) i = A i := by
        intro i h1 h2 h3
        funext j
        rw [mm_put_ne _ _ _ _ _ h3, mm_put_ne _ _ _ _ _ h2, a3 i h1]
      refine ⟨hb.fr ?_ ?_ (rw1 2 (by decide) (by decide) (by decide)) (rw1 3 (by decide) (by decide) (by decide)) (rw1 4 (by decide) (by decide) (by decide)) rfl rfl, ⟨hg, ?_, fun k hk => ?_⟩, fun a ha => ?_, ?_, ?_, ?_, fun p a hp ha => ?_, fun a b ha hb' hab => ?_⟩
      · rw [mm_up_row _ _ _ _ _ (by decide), mm_up_row _ _ _ _ _ (by decide), mm_up_row _ _ _ _ _ (by decide)]
      · rw [mm_up_row _ _ _ _ _ (by decide), mm_up_row _ _ _ _ _ (by decide)]
      · rw [mm_up_eq]
      · rw [mm_put_ne _ _ _ _ _ (by decide), mm_put_ne _ _ _ _ _ (by decide)]; exact a2 k hk
      · rw [rw1 12 (by decide) (by decide) (by decide)]; exact hq.1 a ha
      · rw [mm_up_ne2 _ _ _ _ _ _ (by decide), mm_up_eq]
      · rw [mm_up_eq]
      · rw [mm_up_ne1 _ _ _ _ _ _ (by decide), mm_up_eq]
      · left
        rw [mm_put_ne _ _ _ _ _ (by decide), mm_put_same, if_pos (by omega)]; rfl
      · left
        rw [mm_put_same, if_pos (cd_lt hab)]; rfl
    · rw [mm_up_ne1 _ _ _ _ _ _ (by decide), mm_up_ne2 _ _ _ _ _ _ (by decide), mm_up_eq]; rfl
    · intro i h1 h2
      rw [mm_up_row _ _ _ _ _ h2, mm_up_row _ _ _ _ _ h1, mm_up_row _ _ _ _ _ h1]
    · intro i h1
      rw [mm_up_row _ _ _ _ _ h1, mm_up_row _ _ _ _ _ h1]
    · intro i h1 h2 h3
      funext j
      rw [mm_put_ne _ _ _ _ _ h3, mm_put_ne _ _ _ _ _ h2, a3 i h1]
  rw [en_X0_take, sg_X0_take_0]
  rcases hq.2 with k0 | ⟨k1, u0, u1, w, hw, hp⟩
  · rw [k0, if_pos (show i32 0 = 0 from rfl)]; exact new
  · rw [k1, if_neg (show ¬ i32 1 = 0 by decide)]
    by_cases c1 : J 9 5 = s0
    · by_cases c2 : J 9 6 = s1
      · by_cases c3 : I 9 7 = i32 tu
        · rw [if_pos c1, if_pos c2, if_pos c3]
          have e1 : u0 = s0 := by rw [← c1]; exact hp.2.2.2.1.symm
          have e2 : u1 = s1 := by rw [← c2]; exact hp.2.2.2.2.1.symm
          have e3 : w = tu := by
            have := hp.2.2.2.2.2.1
            rw [c3] at this
            exact ((i32_eq (by omega) (by omega)).1 this).symm
          subst e1; subst e2; subst e3
          exact ⟨I, J, A, rfl, hp, k1, fun _ _ _ => rfl, fun _ _ => rfl, fun _ _ _ _ => rfl⟩
        · rw [if_pos c1, if_pos c2, if_neg c3]; exact new
      · rw [if_pos c1, if_neg c2]; exact new
    · rw [if_neg c1]; exact new
theorem sp_joinedAlready {E s0 s1 : Int64} {tu : Nat} (I : Nat → Nat → Int32) (J : Nat → Nat → Int64) (A : Nat → Nat → Int32) (h : BP K R C E s0 s1 tu I J A B) : ∃ A', f_X0_joinedAlready [.ref 9] (79, e, mm_R0, I, J, A, B) = some (.inl (some (.int (jnd K R C s0 s1))), (79, e, mm_R0, I, J, A', B)) ∧ BP K R C E s0 s1 tu I J A' B ∧ F1 A A' := by
  obtain ⟨A1, a1, a2, a3⟩ := sp_joins e I J B A h (p := 0) (a := 0) (by decide) (by decide)
  rw [psn_0] at a1
  rw [en_X0_joinedAlready, sg_X0_joinedAlready_0]
  simp only [i32_l]
  rw [a1, mm_aft_v, sg_X0_joinedAlready_6]
  unfold jnd
  show ∃ A', (if bi (jnB K R C 0 s0) = 0 then _ else _) = _ ∧ _
  cases j0 : jnB K R C 0 s0 with
  | true =>
    refine ⟨A1, ?_, a2, a3⟩
    rw [if_neg (by decide), sg_X0_joinedAlready_27]
    rfl
  | false =>
    obtain ⟨A2, b1, b2, b3⟩ := sp_joins e I J B A1 a2 (p := 1) (a := 0) (by decide) (by decide)
    rw [psn_0] at b1
    refine ⟨A2, ?_, b2, a3.tr b3⟩
    rw [if_pos (show bi false = 0 from rfl)]
    simp only [i32_l]
    rw [b1, mm_aft_v, sg_X0_joinedAlready_19]
    show (if bi (jnB K R C 1 s1) = 0 then _ else _) = _
    cases j1 : jnB K R C 1 s1 with
    | true => rw [if_neg (by decide), sg_X0_joinedAlready_27]; rfl
    | false => rw [if_pos (show bi false = 0 from rfl), sg_X0_joinedAlready_27]; rfl
/-- what a question of best play leaves as it was -/
abbrev F2 (I I' : Nat → Nat → Int32) (J J' : Nat → Nat → Int64) (A A' : Nat → Nat → Int32) : Prop := (∀ i, i ≠ 9 → i ≠ 10 → I' i = I i) ∧ (∀ i, i ≠ 9 → J' i = J i) ∧ (∀ i, i ≠ 11 → i ≠ 13 → i ≠ 14 → A' i = A i)
theorem F2.tr {I I' : Nat → Nat → Int32} {J J' : Nat → Nat → Int64} {A A' A'' : Nat → Nat → Int32} (h : F2 I I' J J' A A') (g : F1 A' A'') : F2 I I' J J' A A'' := ⟨h.1, h.2.1, fun i a b c => by rw [g i b c, h.2.2 i a b c]⟩
theorem BP.q {s0 s1 : Int64} {tu : Nat} {I : Nat → Nat → Int32} {J : Nat → Nat → Int64} {A : Nat → Nat → Int32} (h : BP K R C (emp (bN K R C) s0 s1) s0 s1 tu I J A B) (ht : tu < 2) (hk : I 9 4 = i32 1) : BQ K R C I J A B := ⟨h.2.2.1, Or.inr ⟨hk, s0, s1, tu, ht, h⟩⟩
theorem sp_score0 {s0 s1 : Int64} {tu : Nat} (I : Nat → Nat → Int32) (J : Nat → Nat → Int64) (A : Nat → Nat → Int32) (h : BP K R C (emp (bN K R C) s0 s1) s0 s1 tu I J A B) (ht : tu < 2) (j0 : jnB K R C 0 s0 = false) (j1 : jnB K R C 1 s1 = false) : ∃ A', (f_X0_score 11) [.ref 9, .int (i32 0), .int (i32 0), .int (i32 tu), .int (i32 0)] (79, e, mm_R0, I, J, A, B) = some (.inl (some (.int (si (Sc K R C (gn (emp (bN K R C) s0 s1)) tu s0 s1)))), (79, e, mm_R0, I, J, A', B)) ∧ BP K R C (emp (bN K R C) s0 s1) s0 s1 tu I J A' B ∧ F1 A A' := by
  have hg : gn (emp (bN K R C) s0 s1) ≤ 9 := h.2.1.1
  have hj : ∀ p, p < 2 → jnB K R C p (psn s0 s1 p ||| spr (emp (bN K R C) s0 s1) 0 (gn (emp (bN K R C) s0 s1))) = false := by
    intro p hp
    rw [psn_0]
    have : p = 0 ∨ p = 1 := by omega
    rcases this with q | q
    · subst q; exact j0
    · subst q; exact j1
  obtain ⟨A', a1, a2, a3⟩ := sp_score e I J B (emp_EH (bN_le h.1.v) s0 s1) (gn (emp (bN K R C) s0 s1)) 11 (by omega) 0 0 tu 0 A ht (by decide) (by decide) (by decide) (fr_00 _) (by omega) (by omega) (hj tu ht) (hj (1 - tu) (by omega)) h
  refine ⟨A', ?_, a2, a3⟩
  rw [a1, psn_0, psn_0]
  have : tu = 0 ∨ tu = 1 := by omega
  rcases this with q | q
  · subst q; rw [SR_t0]; rfl
  · subst q; rw [SR_t1]; rfl
theorem sp_winnerOf (I : Nat → Nat → Int32) (J : Nat → Nat → Int64) (A : Nat → Nat → Int32) (hb : CB K R C I J A B) (hq : BQ K R C I J A B) (s0 s1 : Int64) {tu : Nat} (ht : tu < 2) (hg : gn (emp (bN K R C) s0 s1) ≤ 9) : ∃ I' J' A', f_X0_winnerOf [.ref 9, .long s0, .long s1, .int (i32 tu)] (79, e, mm_R0, I, J, A, B) = some (.inl (some (.int (i32 (bestV K R C s0 s1 tu)))), (79, e, mm_R0, I', J', A', B)) ∧ BQ K R C I' J' A' B ∧ F2 I I' J J' A A' := by
  obtain ⟨I1, J1, A1, a1, a2, a3, a4, a5, a6⟩ := sp_take e B I J A hb hq s0 s1 ht hg
  obtain ⟨A2, b1, b2, b3⟩ := sp_joinedAlready e B I1 J1 A1 a2
  have f2 : F2 I I1 J J1 A A1 := ⟨a4, a5, a6⟩
  rw [en_X0_winnerOf, sg_X0_winnerOf_0, a1, mm_aft_n, sg_X0_winnerOf_8, b1, mm_aft_v, sg_X0_winnerOf_12, a2.2.2.2.2.2.1]
  unfold jnd bestV
  cases j0 : jnB K R C 0 s0 with
  | true =>
    refine ⟨I1, J1, A2, ?_, b2.q B ht a3, f2.tr b3⟩
    rw [if_neg (show ¬ (bif true then i32 0 else bif jnB K R C 1 s1 then i32 1 else iN) = -1 by show ¬ i32 0 = -1; decide), sg_X0_winnerOf_52, if_pos rfl]
    rfl
  | false =>
    cases j1 : jnB K R C 1 s1 with
    | true =>
      refine ⟨I1, J1, A2, ?_, b2.q B ht a3, f2.tr b3⟩
      rw [if_neg (show ¬ (bif false then i32 0 else bif true then i32 1 else iN) = -1 by decide), sg_X0_winnerOf_52, if_neg (by decide), if_pos rfl]
      rfl
    | false =>
      obtain ⟨A3, c1, c2, c3⟩ := sp_score0 e B I1 J1 A2 b2 ht j0 j1
      refine ⟨I1, J1, A3, ?_, c2.q B ht a3, (f2.tr b3).tr c3⟩
      rw [if_pos (show (bif false then i32 0 else bif false then i32 1 else iN) = -1 from rfl), if_neg (by decide), if_neg (by decide)]
      show mm_aft _ 36 _ _ ((f_X0_score 11) [.ref 9, .int (i32 0), .int (i32 0), .int (i32 tu), .int (i32 0)] _) = _
      have zb := Sc_bd (K := K) (R := R) (C := C) (gn (emp (bN K R C) s0 s1)) tu s0 s1
      rw [c1, mm_aft_v, sg_X0_winnerOf_36, a2.2.2.2.2.2.1]
      generalize Sc K R C (gn (emp (bN K R C) s0 s1)) tu s0 s1 = z at zb ⊢
      have c : ((0 : Int32) < si z) ↔ 0 < z := by rw [show (0 : Int32) = si 0 by decide, si_lt (by decide) (by decide) (by omega) (by omega)]
      by_cases q : 0 < z
      · rw [if_pos (c.2 q), if_pos q, sg_X0_winnerOf_52]
      · rw [if_neg (fun y => q (c.1 y)), if_neg q, sg_X0_winnerOf_52, show (1 : Int32) = i32 1 from rfl, i32_sub (by omega)]
theorem sp_lengthOf (I : Nat → Nat → Int32) (J : Nat → Nat → Int64) (A : Nat → Nat → Int32) (hb : CB K R C I J A B) (hq : BQ K R C I J A B) (s0 s1 : Int64) {tu : Nat} (ht : tu < 2) (hg : gn (emp (bN K R C) s0 s1) ≤ 9) : ∃ I' J' A', f_X0_lengthOf [.ref 9, .long s0, .long s1, .int (i32 tu)] (79, e, mm_R0, I, J, A, B) = some (.inl (some (.int (si (lastV K R C s0 s1 tu)))), (79, e, mm_R0, I', J', A', B)) ∧ BQ K R C I' J' A' B ∧ F2 I I' J J' A A' := by
  obtain ⟨I1, J1, A1, a1, a2, a3, a4, a5, a6⟩ := sp_take e B I J A hb hq s0 s1 ht hg
  obtain ⟨A2, b1, b2, b3⟩ := sp_joinedAlready e B I1 J1 A1 a2
  have f2 : F2 I I1 J J1 A A1 := ⟨a4, a5, a6⟩
  rw [en_X0_lengthOf, sg_X0_lengthOf_0, a1, mm_aft_n, sg_X0_lengthOf_8, b1, mm_aft_v, sg_X0_lengthOf_12, a2.2.2.2.2.2.1]
  unfold jnd lastV
  cases j0 : jnB K R C 0 s0 with
  | true =>
    refine ⟨I1, J1, A2, ?_, b2.q B ht a3, f2.tr b3⟩
    rw [if_neg (show ¬ (bif true then i32 0 else bif jnB K R C 1 s1 then i32 1 else iN) = -1 by show ¬ i32 0 = -1; decide), sg_X0_lengthOf_37, if_pos rfl]
    rfl
  | false =>
    cases j1 : jnB K R C 1 s1 with
    | true =>
      refine ⟨I1, J1, A2, ?_, b2.q B ht a3, f2.tr b3⟩
      rw [if_neg (show ¬ (bif false then i32 0 else bif true then i32 1 else iN) = -1 by decide), sg_X0_lengthOf_37, if_neg (by decide), if_pos rfl]
      rfl
    | false =>
      obtain ⟨A3, c1, c2, c3⟩ := sp_score0 e B I1 J1 A2 b2 ht j0 j1
      refine ⟨I1, J1, A3, ?_, c2.q B ht a3, (f2.tr b3).tr c3⟩
      rw [if_pos (show (bif false then i32 0 else bif false then i32 1 else iN) = -1 from rfl), if_neg (by decide), if_neg (by decide)]
      show mm_aft _ 33 _ _ ((f_X0_score 11) [.ref 9, .int (i32 0), .int (i32 0), .int (i32 tu), .int (i32 0)] _) = _
      have zb := Sc_bd (K := K) (R := R) (C := C) (gn (emp (bN K R C) s0 s1)) tu s0 s1
      rw [c1, mm_aft_v, sg_X0_lengthOf_33, sp_abs, mm_aft_v, sg_X0_lengthOf_36, sg_X0_lengthOf_37]
      generalize Sc K R C (gn (emp (bN K R C) s0 s1)) tu s0 s1 = z at zb ⊢
      have c : (si z < (0 : Int32)) ↔ z < 0 := by rw [show (0 : Int32) = si 0 by decide, si_lt (by omega) (by omega) (by decide) (by decide)]
      rw [show (100 : Int32) = si 100 by decide]
      by_cases q : z < 0
      · rw [if_pos (c.2 q), if_neg (by omega), show -si z = si (-z) from (Int32.ofInt_neg z).symm, si_sub, show (100 : Int) - -z = 100 + z by omega]
      · rw [if_neg (fun y => q (c.1 y)), si_sub]
        by_cases q0 : 0 < z
        · rw [if_pos q0]
        · rw [if_neg q0, show (100 : Int) - z = 100 + z by omega]
end
