/-! the reference solves all fillings -/
theorem MB.fr {K R C : Nat} {I I' : Nat → Nat → Int32} {A A' : Nat → Nat → Int32} {B B' : Nat → Nat → Int64} (h : MB K R C I A B) (hI : ∀ p, p < 4 → I' 39 p = I 39 p) (h0 : A' 40 = A 40) (h1 : A' 41 = A 41) (h2 : A' 42 = A 42) (h3 : B' 43 = B 43) (h4 : B' 44 = B 44) : MB K R C I' A' B' := by
  obtain ⟨a1, a2, a3, a4, a5, a6, a7, a8, a9⟩ := h
  refine ⟨a1, by rw [hI 0 (by decide)]; exact a2, by rw [hI 1 (by decide)]; exact a3, by rw [hI 2 (by decide)]; exact a4, by rw [hI 3 (by decide)]; exact a5, ?_, ?_, ?_, ?_⟩
  · rw [h0, h1]; exact a6
  · rw [h2]; exact a7
  · rw [h3]; exact a8
  · rw [h4]; exact a9
section
variable {K R C : Nat}
theorem Sc_j0 {f t : Nat} {s0 s1 : Int64} (h : jnB K R C 0 s0 = true) : Sc K R C f t s0 s1 = sg t 0 := by
  cases f with
  | zero => unfold Sc; rw [if_pos h]
  | succ f => unfold Sc; rw [if_pos h]
theorem Sc_j1 {f t : Nat} {s0 s1 : Int64} (h0 : jnB K R C 0 s0 = false) (h : jnB K R C 1 s1 = true) : Sc K R C f t s0 s1 = sg t 1 := by
  have e : ¬ jnB K R C 0 s0 = true := by rw [h0]; decide
  cases f with
  | zero => unfold Sc; rw [if_neg e, if_pos h]
  | succ f => unfold Sc; rw [if_neg e, if_pos h]
theorem val_sg {t p : Nat} (ht : t < 2) (hp : p < 2) : val t (sg t p) = p := by
  unfold val sg
  by_cases q : t = p
  · rw [if_pos q, if_pos (by decide)]; exact q
  · rw [if_neg q, if_neg (by decide)]; omega
theorem las_sg (t p : Nat) : las (sg t p) = 0 := by
  unfold sg
  split <;> rfl
theorem bestV_val {s0 s1 : Int64} {tu : Nat} (ht : tu < 2) : bestV K R C s0 s1 tu = val tu (Sc K R C (gn (emp (bN K R C) s0 s1)) tu s0 s1) := by
  unfold bestV
  cases j0 : jnB K R C 0 s0 with
  | true => rw [if_pos rfl, Sc_j0 j0, val_sg ht (by decide)]
  | false =>
    rw [if_neg (by decide)]
    cases j1 : jnB K R C 1 s1 with
    | true => rw [if_pos rfl, Sc_j1 j0 j1, val_sg ht (by decide)]
    | false => rw [if_neg (by decide)]; rfl
theorem lastV_las {s0 s1 : Int64} {tu : Nat} : lastV K R C s0 s1 tu = (las (Sc K R C (gn (emp (bN K R C) s0 s1)) tu s0 s1) : Int) := by
  unfold lastV
  cases j0 : jnB K R C 0 s0 with
  | true => rw [if_pos rfl, Sc_j0 j0, las_sg]; rfl
  | false =>
    rw [if_neg (by decide)]
    cases j1 : jnB K R C 1 s1 with
    | true => rw [if_pos rfl, Sc_j1 j0 j1, las_sg]; rfl
    | false =>
      rw [if_neg (by decide)]
      have b := Sc_bd (K := K) (R := R) (C := C) (gn (emp (bN K R C) s0 s1)) tu s0 s1
      unfold las
      split
      · omega
      · omega
theorem dg_0 (j : Nat) : dg 0 j = 0 := by unfold dg; rw [Nat.zero_div]
theorem fl_0 (E : Int64) {d : Nat} (hd : 0 < d) : ∀ n, fl E 0 d n = 0 := by
  intro n
  induction n with
  | zero => rfl
  | succ n ih =>
    show fl E 0 d n ||| _ = 0
    rw [ih, dg_0, if_neg (by omega)]; rfl
theorem dn3_0 (n : Nat) {d : Nat} (hd : 0 < d) : dn3 n 0 d = 0 := by
  induction n with
  | zero => rfl
  | succ n ih => 
    show dn3 n 0 d + (decide (dg 0 n = d)).toNat = 0
    rw [ih, dg_0, decide_eq_false (by omega)]; rfl
theorem tnF_0 {n tu : Nat} (ht : tu < 2) : tnF n tu 0 = tu := by
  unfold tnF
  rw [dn3_0 n (by omega), dn3_0 n (by omega), if_pos rfl]
theorem zF_0 {E s0 s1 : Int64} {tu : Nat} (ht : tu < 2) : zF K R C E s0 s1 tu 0 = Sc K R C (gn E) tu s0 s1 := by
  unfold zF
  have s := dn3_sum 0 (gn E)
  rw [dn3_0 _ (d := 1) (by decide), dn3_0 _ (d := 2) (by decide)] at s
  rw [tnF_0 ht, fl_0 _ (by decide), fl_0 _ (by decide), or_zero64, or_zero64, show dn3 (gn E) 0 0 = gn E by omega]
end
section
variable (k : Nat) (r : Nat → Nat → Value) (e : Nat) (J : Nat → Nat → Int64)
theorem sp_Msolves {K R C : Nat} (I : Nat → Nat → Int32) (A : Nat → Nat → Int32) (B : Nat → Nat → Int64) (hb : MB K R C I A B) (hT : ∀ j, j < 10 → A 51 j = i32 (3 ^ j)) (s0 s1 : Int64) {tu : Nat} (ht : tu < 2) (hg : gn (emp (bN K R C) s0 s1) ≤ 9) : ∃ A' B', f_X11_solves [.ref 39, .long s0, .long s1, .int (i32 tu)] (k + 64, e, (mm_RM r), I, J, A, B) = some (.inl none, (k + 64, e, (mm_RM r), mm_up I 39 21 (i32 (gn (emp (bN K R C) s0 s1))), J, A', B')) ∧ (∀ c, c < 3 ^ gn (emp (bN K R C) s0 s1) → tnF (gn (emp (bN K R C) s0 s1)) tu c < 2 → VC K R C (emp (bN K R C) s0 s1) s0 s1 tu A' c) ∧ (∀ k, k < gn (emp (bN K R C) s0 s1) → A' 50 k = i32 (gc (emp (bN K R C) s0 s1) k)) ∧ (∀ i, i ≠ 50 → i ≠ 52 → i ≠ 53 → A' i = A i) ∧ (∀ i, i ≠ 54 → B' i = B i) := by
  have hn := bN_le hb.v
  have hE := emp_EH hn s0 s1
  obtain ⟨E, hEd⟩ : ∃ E, E = emp (bN K R C) s0 s1 := ⟨_, rfl⟩
  rw [← hEd] at hE hg ⊢
  have p9 := p3le hg
  obtain ⟨A1, t1, t2, t3⟩ := sp_MtakesEmpty k r e I J A B (E := E) hn hb.cells hg (fun c hc => bool_f (fun z => by have := ((hE c).1 z).1; omega))
  obtain ⟨I1, hI1⟩ : ∃ I1, I1 = mm_up I 39 21 (i32 (gn E)) := ⟨_, rfl⟩
  have g21 : I1 39 21 = i32 (gn E) := by rw [hI1, mm_up_eq]
  have mb1 : ∀ A' B', (∀ i, i ≠ 50 → i ≠ 52 → i ≠ 53 → A' i = A i) → (∀ i, i ≠ 54 → B' i = B i) → MB K R C I1 A' B' := fun A' B' h1 h2 => hb.fr (fun p hp => by rw [hI1, mm_up_ne2 _ _ _ _ _ _ (by omega)]) (h1 40 (by decide) (by decide) (by decide)) (h1 41 (by decide) (by decide) (by decide)) (h1 42 (by decide) (by decide) (by decide)) (h2 43 (by decide)) (h2 44 (by decide))
  have L : ∀ (m : Nat) (A' : Nat → Nat → Int32) (B' : Nat → Nat → Int64) (o7 o8 o9 : Option Value), m ≤ 3 ^ gn E → (∀ k, k < gn E → A' 50 k = i32 (gc E k)) → (∀ c, m ≤ c → c < 3 ^ gn E → tnF (gn E) tu c < 2 → VC K R C E s0 s1 tu A' c) → (∀ i, i ≠ 50 → i ≠ 52 → i ≠ 53 → A' i = A i) → (∀ i, i ≠ 54 → B' i = B i) → ∃ A'' B'', mm_run (mm_pr tb_X11_solves) (38, [some (.ref 39), some (.long s0), none, some (.long s1), none, some (.int (i32 tu)), some (.int (si ((m : Int) - 1))), o7, o8, o9], [], (k + 64, e, (mm_RM r), I1, J, A', B')) = some (.inl none, (k + 64, e, (mm_RM r), I1, J, A'', B'')) ∧ (∀ c, c < 3 ^ gn E → tnF (gn E) tu c < 2 → VC K R C E s0 s1 tu A'' c) ∧ (∀ k, k < gn E → A'' 50 k = i32 (gc E k)) ∧ (∀ i, i ≠ 50 → i ≠ 52 → i ≠ 53 → A'' i = A i) ∧ (∀ i, i ≠ 54 → B'' i = B i) := by
    intro m
    induction m with
    | zero =>
      intro A' B' o7 o8 o9 _ h50 hV hA hB
      refine ⟨A', B', ?_, fun c h1 h2 => hV c (Nat.zero_le _) h1 h2, h50, hA, hB⟩
      rw [sg_X11_solves_38, if_pos (by decide)]
    | succ c ih =>
      intro A' B' o7 o8 o9 hm h50 hV hA hB
      have hT' : ∀ j, j < 10 → A' 51 j = i32 (3 ^ j) := fun j hj => by rw [hA 51 (by decide) (by decide) (by decide)]; exact hT j hj
      have e0 : si (((c + 1 : Nat) : Int) - 1) = i32 c := by rw [si_i32]; congr 1; omega
      have e1 : i32 c + (-1 : Int32) = si ((c : Int) - 1) := by rw [si_i32, show (-1 : Int32) = si (-1) by decide, si_add]; rfl
      have cd0 : ∀ d, cf (fun j => decide (dg c j = d)) (gn E) = dn3 (gn E) c d := fun _ => rfl
      have ds := dn3_sum c (gn E)
      have dl1 : dn3 (gn E) c (tu + 1) ≤ gn E := cf_le _ _
      have dl2 : dn3 (gn E) c (2 - tu) ≤ gn E := cf_le _ _
      rw [e0, sg_X11_solves_38, if_neg (by rw [show (0 : Int32) = i32 0 from rfl, i32_lt (by omega) (by decide)]; omega)]
      simp only [i32_l]
      rw [i32_add, sp_Mcount k r e I1 J A' B' hg g21 hT' (by omega) (by omega), mm_aft_v, sg_X11_solves_53]
      simp only [i32_l]
      rw [i32_sub (by omega), sp_Mcount k r e I1 J A' B' hg g21 hT' (by omega) (by omega), mm_aft_v, sg_X11_solves_65, cd0, cd0]
      have goO : ∀ (A2 : Nat → Nat → Int32) (B2 : Nat → Nat → Int64) (o9 : Option Value), (∀ k, k < gn E → A2 50 k = i32 (gc E k)) → (∀ x, c ≤ x → x < 3 ^ gn E → tnF (gn E) tu x < 2 → VC K R C E s0 s1 tu A2 x) → (∀ i, i ≠ 50 → i ≠ 52 → i ≠ 53 → A2 i = A i) → (∀ i, i ≠ 54 → B2 i = B i) → ∃ A'' B'', mm_run (mm_pr tb_X11_solves) (154, [some (.ref 39), some (.long s0), none, some (.long s1), none, some (.int (i32 tu)), some (.int (i32 c)), some (.int (i32 (dn3 (gn E) c (tu + 1)))), some (.int (i32 (dn3 (gn E) c (2 - tu)))), o9], [], (k + 64, e, (mm_RM r), I1, J, A2, B2)) = some (.inl none, (k + 64, e, (mm_RM r), I1, J, A'', B'')) ∧ (∀ c, c < 3 ^ gn E → tnF (gn E) tu c < 2 → VC K R C E s0 s1 tu A'' c) ∧ (∀ k, k < gn E → A'' 50 k = i32 (gc E k)) ∧ (∀ i, i ≠ 50 → i ≠ 52 → i ≠ 53 → A'' i = A i) ∧ (∀ i, i ≠ 54 → B'' i = B i) := by
        intro A2 B2 o9 x1 x2 x3 x4
        rw [sg_X11_solves_154, e1]
        exact ih A2 B2 _ _ o9 (by omega) x1 x2 x3 x4
      have tnd : tnF (gn E) tu c = (if dn3 (gn E) c (tu + 1) = dn3 (gn E) c (2 - tu) then tu else if dn3 (gn E) c (tu + 1) = dn3 (gn E) c (2 - tu) + 1 then 1 - tu else 2) := rfl
      have main : tnF (gn E) tu c < 2 → ∃ A'' B'', mm_run (mm_pr tb_X11_solves) (83, [some (.ref 39), some (.long s0), none, some (.long s1), none, some (.int (i32 tu)), some (.int (i32 c)), some (.int (i32 (dn3 (gn E) c (tu + 1)))), some (.int (i32 (dn3 (gn E) c (2 - tu)))), o9], [], (k + 64, e, (mm_RM r), I1, J, A', B')) = some (.inl none, (k + 64, e, (mm_RM r), I1, J, A'', B'')) ∧ (∀ c, c < 3 ^ gn E → tnF (gn E) tu c < 2 → VC K R C E s0 s1 tu A'' c) ∧ (∀ k, k < gn E → A'' 50 k = i32 (gc E k)) ∧ (∀ i, i ≠ 50 → i ≠ 52 → i ≠ 53 → A'' i = A i) ∧ (∀ i, i ≠ 54 → B'' i = B i) := by
        intro hl
        obtain ⟨B2, f1, f2, f3, f4⟩ := sp_Mfills k r e I1 J A' B' ⟨hg, g21, h50⟩ hT' (c := c) (by omega) s0 s1
        have fB : ∀ i, i ≠ 54 → B2 i = B i := fun i hi => by rw [f4 i hi, hB i hi]
        rw [sg_X11_solves_83, f1, mm_aft_n, sg_X11_solves_91]
        simp only [i32_l]
        rw [i32_ix (by decide), i32_ix (by decide), f2, f3, sp_Mjoined k r e I1 J A' B2 (mb1 A' B2 hA fB), mm_aft_v, sg_X11_solves_107]
        simp (disch := omega) only [i32_l, iN_l, i32_add, i32_mul, i32_r0, i32_r1, run_bi, run_bi', i32_sub, decide_eq_true_eq, bi_rt, bi_em, bi_0, bi_1, i32_lt, i32_eq, iN_ne, iN_lt, iN_nlt, i32_ix, i32_in,  mm_aft_v, mm_aft_n, mm_aft_x, if_pos, if_neg, ite_true, ite_false, if_true, if_false, not_false_eq_true, not_true_eq_false]
        have done : ∀ z : Int, zF K R C E s0 s1 tu c = z → ∀ A2 : Nat → Nat → Int32, A2 52 c = i32 (val (tnF (gn E) tu c) z) → A2 53 c = i32 (las z) → (∀ x, x ≠ c → A2 52 x = A' 52 x ∧ A2 53 x = A' 53 x) → (∀ i, i ≠ 52 → i ≠ 53 → A2 i = A' i) → (∀ k, k < gn E → A2 50 k = i32 (gc E k)) ∧ (∀ x, c ≤ x → x < 3 ^ gn E → tnF (gn E) tu x < 2 → VC K R C E s0 s1 tu A2 x) ∧ (∀ i, i ≠ 50 → i ≠ 52 → i ≠ 53 → A2 i = A i) := by
          intro z hz A2 a1 a2 a3 a4
          refine ⟨fun j hj => by rw [a4 50 (by decide) (by decide)]; exact h50 j hj, fun x x1 x2 x3 => ?_, fun i i1 i2 i3 => by rw [a4 i i2 i3, hA i i1 i2 i3]⟩
          by_cases q : x = c
          · subst q
            exact ⟨by rw [hz]; exact a1, by rw [hz]; exact a2⟩
          · have := hV x (by omega) x2 x3
            unfold VC at this ⊢
            rw [(a3 x q).1, (a3 x q).2]; exact this
        have upf : ∀ v0 v1 : Int32, (∀ x, x ≠ c → (mm_up (mm_up A' 53 c v0) 52 c v1) 52 x = A' 52 x ∧ (mm_up (mm_up A' 53 c v0) 52 c v1) 53 x = A' 53 x) ∧ (∀ i, i ≠ 52 → i ≠ 53 → (mm_up (mm_up A' 53 c v0) 52 c v1) i = A' i) := by
          intro v0 v1
          refine ⟨fun x hx => ⟨?_, ?_⟩, fun i i1 i2 => ?_⟩
          · rw [mm_up_ne2 _ _ _ _ _ _ hx, mm_up_ne1 _ _ _ _ _ _ (by decide)]
          · rw [mm_up_ne1 _ _ _ _ _ _ (by decide), mm_up_ne2 _ _ _ _ _ _ hx]
          · rw [mm_up_row _ _ _ _ _ i1, mm_up_row _ _ _ _ _ i2]
        unfold jnd
        cases j0 : jnB K R C 0 (s0 ||| fl E c 1 (gn E)) with
        | true =>
          have hz : zF K R C E s0 s1 tu c = sg (tnF (gn E) tu c) 0 := by unfold zF; exact Sc_j0 j0
          obtain ⟨d1, d2, d3⟩ := done _ hz (mm_up (mm_up A' 53 c (i32 0)) 52 c (i32 0)) (by rw [mm_up_eq, val_sg hl (by decide)]) (by rw [mm_up_ne1 _ _ _ _ _ _ (by decide), mm_up_eq, las_sg]) (upf _ _).1 (upf _ _).2
          rw [if_neg (show ¬ (bif true then i32 0 else bif jnB K R C 1 (s1 ||| fl E c 2 (gn E)) then i32 1 else iN) = iN by show ¬ i32 0 = iN; decide)]
          exact goO _ B2 _ d1 d2 d3 fB
        | false =>
          cases j1 : jnB K R C 1 (s1 ||| fl E c 2 (gn E)) with
          | true =>
            have hz : zF K R C E s0 s1 tu c = sg (tnF (gn E) tu c) 1 := by unfold zF; exact Sc_j1 j0 j1
            obtain ⟨d1, d2, d3⟩ := done _ hz (mm_up (mm_up A' 53 c (i32 0)) 52 c (i32 1)) (by rw [mm_up_eq, val_sg hl (by decide)]) (by rw [mm_up_ne1 _ _ _ _ _ _ (by decide), mm_up_eq, las_sg]) (upf _ _).1 (upf _ _).2
            rw [if_neg (show ¬ (bif false then i32 0 else bif true then i32 1 else iN) = iN by decide)]
            exact goO _ B2 _ d1 d2 d3 fB
          | false =>
            rw [if_pos (show (bif false then i32 0 else bif false then i32 1 else iN) = iN from rfl)]
            obtain ⟨A2, hA2⟩ : ∃ A2, A2 = mm_up (mm_up A' 53 c (i32 0)) 52 c (bif false then i32 0 else bif false then i32 1 else iN) := ⟨_, rfl⟩
            rw [← hA2]
            have u1 : ∀ x, x ≠ c → A2 52 x = A' 52 x ∧ A2 53 x = A' 53 x := by rw [hA2]; exact (upf _ _).1
            have u2 : ∀ i, i ≠ 52 → i ≠ 53 → A2 i = A' i := by rw [hA2]; exact (upf _ _).2
            have so := sp_MsolvesOne k r e I1 J A2 B2 hE ⟨hg, g21, fun j hj => by rw [u2 50 (by decide) (by decide)]; exact h50 j hj⟩ (fun j hj => by rw [u2 51 (by decide) (by decide)]; exact hT' j hj) ht (c := c) (by omega) hl j0 j1 (fun x x1 x2 x3 => by
              have := hV x (by omega) x2 x3
              unfold VC at this ⊢
              rw [(u1 x (by omega)).1, (u1 x (by omega)).2]; exact this)
            obtain ⟨d1, d2, d3⟩ := done _ rfl (mm_up (mm_up A2 52 c (i32 (val (tnF (gn E) tu c) (zF K R C E s0 s1 tu c)))) 53 c (i32 (las (zF K R C E s0 s1 tu c)))) (by rw [mm_up_ne1 _ _ _ _ _ _ (by decide), mm_up_eq]) (by rw [mm_up_eq]) (fun x hx => ⟨by rw [mm_up_ne1 _ _ _ _ _ _ (by decide), mm_up_ne2 _ _ _ _ _ _ hx]; exact (u1 x hx).1, by rw [mm_up_ne2 _ _ _ _ _ _ hx, mm_up_ne1 _ _ _ _ _ _ (by decide)]; exact (u1 x hx).2⟩) (fun i i1 i2 => by rw [mm_up_row _ _ _ _ _ i2, mm_up_row _ _ _ _ _ i1]; exact u2 i i1 i2)
            have tail : ∀ t, t = tnF (gn E) tu c → ∀ o9 : Int32, ∃ A'' B'', mm_run (mm_pr tb_X11_solves) (151, [some (.ref 39), some (.long s0), none, some (.long s1), none, some (.int (i32 tu)), some (.int (i32 c)), some (.int (i32 (dn3 (gn E) c (tu + 1)))), some (.int (i32 (dn3 (gn E) c (2 - tu)))), some (.int o9)], [.int (i32 t), .int (i32 c), .ref 39], (k + 64, e, (mm_RM r), I1, J, A2, B2)) = some (.inl none, (k + 64, e, (mm_RM r), I1, J, A'', B'')) ∧ (∀ c, c < 3 ^ gn E → tnF (gn E) tu c < 2 → VC K R C E s0 s1 tu A'' c) ∧ (∀ k, k < gn E → A'' 50 k = i32 (gc E k)) ∧ (∀ i, i ≠ 50 → i ≠ 52 → i ≠ 53 → A'' i = A i) ∧ (∀ i, i ≠ 54 → B'' i = B i) := by
              intro t htt o9
              rw [sg_X11_solves_151, htt, so, mm_aft_n]
              exact goO _ B2 _ d1 d2 d3 fB
            by_cases q : dn3 (gn E) c (tu + 1) = dn3 (gn E) c (2 - tu)
            · rw [if_pos (by rw [q])]
              exact tail tu (by rw [tnd, if_pos q]) _
            · rw [if_neg q] at tnd
              have q2 : dn3 (gn E) c (tu + 1) = dn3 (gn E) c (2 - tu) + 1 := by
                refine Decidable.byContradiction (fun z => ?_)
                rw [if_neg z] at tnd; omega
              rw [if_neg q]
              exact tail (1 - tu) (by rw [tnd, if_pos q2]) _
      by_cases q1 : dn3 (gn E) c (tu + 1) = dn3 (gn E) c (2 - tu)
      · rw [if_pos (by rw [q1])]
        exact main (by rw [tnd, if_pos q1]; exact ht)
      · rw [if_neg (by rw [i32_eq (by omega) (by omega)]; exact q1)]
        simp only [i32_l]
        rw [i32_add]
        by_cases q2 : dn3 (gn E) c (tu + 1) = dn3 (gn E) c (2 - tu) + 1
        · rw [if_pos (by rw [q2])]
          exact main (by rw [tnd, if_neg q1, if_pos q2]; omega)
        · rw [if_neg (by rw [i32_eq (by omega) (by omega)]; exact q2)]
          refine goO A' B' o9 h50 (fun x x1 x2 x3 => ?_) hA hB
          by_cases e : x = c
          · subst e; rw [tnd, if_neg q1, if_neg q2] at x3; omega
          · exact hV x (by omega) x2 x3
  have pp : 1 ≤ 3 ^ gn E := Nat.pow_pos (by decide)
  obtain ⟨A2, B2, l1, l2, l3, l4, l5⟩ := L (3 ^ gn E) A1 B none none none (Nat.le_refl _) t2 (fun c h1 h2 => by omega) (fun i h1 _ _ => t3 i h1) (fun _ _ => rfl)
  refine ⟨A2, B2, ?_, l2, l3, l4, l5⟩
  have p51 : A1 51 (gn E) = i32 (3 ^ gn E) := by rw [t3 51 (by decide)]; exact hT _ (by omega)
  rw [en_X11_solves, sg_X11_solves_0, hb.cells, sp_Mbit, mm_aft_v, sg_X11_solves_8, emp_M hn, ← hEd, t1, mm_aft_n, ← hI1, sg_X11_solves_25, g21, if_pos ((i32_in (by omega)).2 (by omega)), i32_ix (by omega), p51]
  rw [show i32 (3 ^ gn E) - 1 = si (((3 ^ gn E : Nat) : Int) - 1) by rw [si_i32, show (1 : Int32) = si 1 by decide, si_sub]]
  exact l1
end
