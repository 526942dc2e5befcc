/-! the reference solves: one filling -/
def las (z : Int) : Nat := (if 0 < z then 100 - z else 100 + z).toNat
def val (t : Nat) (z : Int) : Nat := if 0 < z then t else 1 - t
noncomputable def zF (K R C : Nat) (E s0 s1 : Int64) (tu c : Nat) : Int := Sc K R C (dn3 (gn E) c 0) (tnF (gn E) tu c) (s0 ||| fl E c 1 (gn E)) (s1 ||| fl E c 2 (gn E))
def VC (K R C : Nat) (E s0 s1 : Int64) (tu : Nat) (A : Nat → Nat → Int32) (c : Nat) : Prop := A 52 c = i32 (val (tnF (gn E) tu c) (zF K R C E s0 s1 tu c)) ∧ A 53 c = i32 (las (zF K R C E s0 s1 tu c))
def RI (few mo : Nat) (a : Int) : Prop := (few = 1000 ∧ mo ≤ 10 ∧ a = (mo : Int) - 100) ∨ (1 ≤ few ∧ few ≤ 10 ∧ mo ≤ 10 ∧ a = 100 - (few : Int))
theorem RI_win {few mo : Nat} {a z : Int} (h : RI few mo a) (z1 : -100 ≤ z) (z2 : z ≤ -91) : RI (if las z + 1 < few then las z + 1 else few) mo (max a (bk z)) := by
  have l : (las z : Int) = 100 + z := by
    unfold las
    rw [if_neg (by omega)]
    omega
  have b : bk z = -1 - z := if_neg (by omega)
  rw [b]
  rcases h with ⟨h1, h2, h3⟩ | ⟨h1, h2, h3, h4⟩
  · rw [if_pos (by omega), Int.max_eq_right (by omega)]
    right; omega
  · by_cases q : las z + 1 < few
    · rw [if_pos q, Int.max_eq_right (by omega)]; right; omega
    · rw [if_neg q, Int.max_eq_left (by omega)]; right; omega
theorem RI_los {few mo : Nat} {a z : Int} (h : RI few mo a) (z1 : 91 ≤ z) (z2 : z ≤ 100) : RI few (if mo < las z + 1 then las z + 1 else mo) (max a (bk z)) := by
  have l : (las z : Int) = 100 - z := by
    unfold las
    rw [if_pos (by omega)]
    omega
  have b : bk z = 1 - z := if_pos (by omega)
  rw [b]
  rcases h with ⟨h1, h2, h3⟩ | ⟨h1, h2, h3, h4⟩
  · by_cases q : mo < las z + 1
    · rw [if_pos q, Int.max_eq_right (by omega)]; left; omega
    · rw [if_neg q, Int.max_eq_left (by omega)]; left; omega
  · rw [Int.max_eq_left (by omega)]
    by_cases q : mo < las z + 1
    · rw [if_pos q]; right; omega
    · rw [if_neg q]; right; omega
section
variable {K R C : Nat} {E s0 s1 : Int64} {tu : Nat}
theorem zF_put (ht : tu < 2) {c k f' : Nat} (h0 : dg c k = 0) (hk : k < gn E) (hl : tnF (gn E) tu c < 2) (hf : dn3 (gn E) c 0 = f' + 1) : zF K R C E s0 s1 tu (c + 3 ^ k * (tnF (gn E) tu c + 1)) = Sc K R C f' (1 - tnF (gn E) tu c) (pt (tnF (gn E) tu c) 0 (gc E k) (s0 ||| fl E c 1 (gn E))) (pt (tnF (gn E) tu c) 1 (gc E k) (s1 ||| fl E c 2 (gn E))) := by
  unfold zF
  have a1 := dn3_sum c (gn E)
  have a2 := dn3_sum (c + 3 ^ k * (tnF (gn E) tu c + 1)) (gn E)
  have b1 := dn3_put (n := gn E) (k := k) (d := tnF (gn E) tu c + 1) (d' := 1) h0 (by omega) (by omega) hk (by decide)
  have b2 := dn3_put (n := gn E) (k := k) (d := tnF (gn E) tu c + 1) (d' := 2) h0 (by omega) (by omega) hk (by decide)
  have c1 := fl_put (E := E) (k := k) (d := tnF (gn E) tu c + 1) (d' := 1) h0 (by omega) (by omega) hk (by decide)
  have c2 := fl_put (E := E) (k := k) (d := tnF (gn E) tu c + 1) (d' := 2) h0 (by omega) (by omega) hk (by decide)
  rw [tnF_put ht h0 hk hl, c1, c2]
  unfold pt
  have t01 : tnF (gn E) tu c = 0 ∨ tnF (gn E) tu c = 1 := by omega
  rcases t01 with q | q
  · rw [q] at a2 b1 b2 ⊢
    rw [if_pos rfl] at b1
    rw [if_neg (by decide)] at b2
    rw [if_pos rfl, if_neg (by decide), if_pos rfl, if_neg (by decide), or_assoc64, show dn3 (gn E) (c + 3 ^ k * (0 + 1)) 0 = f' by omega]
  · rw [q] at a2 b1 b2 ⊢
    rw [if_neg (by decide)] at b1
    rw [if_pos rfl] at b2
    rw [if_neg (by decide), if_pos rfl, if_neg (by decide), if_pos rfl, or_assoc64, show dn3 (gn E) (c + 3 ^ k * (1 + 1)) 0 = f' by omega]
theorem dn3_free {n c k : Nat} (hk : k < n) (h0 : dg c k = 0) : ∃ f', dn3 n c 0 = f' + 1 := by
  have := cf_one (p := fun j => decide (dg c j = 0)) hk (decide_eq_true h0)
  have e : dn3 n c 0 = cf (fun j => decide (dg c j = 0)) n := rfl
  exact ⟨dn3 n c 0 - 1, by omega⟩
theorem zF_tp (hE : EH (bN K R C) E s0 s1) (ht : tu < 2) {c : Nat} (hl : tnF (gn E) tu c < 2) (j0 : jnB K R C 0 (s0 ||| fl E c 1 (gn E)) = false) (j1 : jnB K R C 1 (s1 ||| fl E c 2 (gn E)) = false) : zF K R C E s0 s1 tu c = tp (fun k => decide (dg c k = 0)) (fun k => bk (zF K R C E s0 s1 tu (c + 3 ^ k * (tnF (gn E) tu c + 1)))) (gn E) := by
  cases hf : dn3 (gn E) c 0 with
  | zero =>
    rw [tp_none hf]
    unfold zF
    rw [hf]
    unfold Sc
    rw [if_neg (by rw [j0]; decide), if_neg (by rw [j1]; decide)]
  | succ f' =>
    have e : zF K R C E s0 s1 tu c = Sc K R C (f' + 1) (tnF (gn E) tu c) (s0 ||| fl E c 1 (gn E)) (s1 ||| fl E c 2 (gn E)) := by
      unfold zF; rw [hf]
    rw [e]
    unfold Sc
    rw [if_neg (by rw [j0]; decide), if_neg (by rw [j1]; decide), tp_gap (E := E) (p := fre (bN K R C) (s0 ||| fl E c 1 (gn E)) (s1 ||| fl E c 2 (gn E))) (fun x hx => fre_E hE (t := 0) (by decide) x hx) 36 (Nat.le_refl _)]
    refine tp_congr (fun k hk => fre_dg hE hk) (fun k hk hq => ?_)
    rw [fre_dg hE hk, decide_eq_true_eq] at hq
    rw [zF_put ht hq hk hl hf]
end
theorem p3le {n : Nat} (h : n ≤ 9) : 3 ^ n ≤ 19683 := Nat.pow_le_pow_right (n := 3) (by decide) h
section
variable (k : Nat) (r : Nat → Nat → Value) (e : Nat) (I : Nat → Nat → Int32) (J : Nat → Nat → Int64) (A : Nat → Nat → Int32) (B : Nat → Nat → Int64)
theorem sp_MsolvesOne {K R C : Nat} {E s0 s1 : Int64} {tu : Nat} (hE : EH (bN K R C) E s0 s1) (h : GM E I A) (hT : ∀ j, j < 10 → A 51 j = i32 (3 ^ j)) (ht : tu < 2) {c : Nat} (hc : c < 3 ^ gn E) (hl : tnF (gn E) tu c < 2) (j0 : jnB K R C 0 (s0 ||| fl E c 1 (gn E)) = false) (j1 : jnB K R C 1 (s1 ||| fl E c 2 (gn E)) = false) (hV : ∀ c', c < c' → c' < 3 ^ gn E → tnF (gn E) tu c' < 2 → VC K R C E s0 s1 tu A c') : f_X11_solvesOne [.ref 39, .int (i32 c), .int (i32 (tnF (gn E) tu c))] (k + 64, e, (mm_RM r), I, J, A, B) = some (.inl none, (k + 64, e, (mm_RM r), I, J, mm_up (mm_up A 52 c (i32 (val (tnF (gn E) tu c) (zF K R C E s0 s1 tu c)))) 53 c (i32 (las (zF K R C E s0 s1 tu c))), B)) := by
  obtain ⟨g0, g1, g2⟩ := h
  have p9 := p3le g0
  have zt := zF_tp hE ht hl j0 j1
  have zb : ∀ x, (91 ≤ zF K R C E s0 s1 tu x ∨ zF K R C E s0 s1 tu x ≤ -91) ∧ -100 ≤ zF K R C E s0 s1 tu x ∧ zF K R C E s0 s1 tu x ≤ 100 := by
    intro x
    have s := dn3_sum x (gn E)
    have a := Sc_abs (K := K) (R := R) (C := C) (dn3 (gn E) x 0) (tnF (gn E) tu x) (s0 ||| fl E x 1 (gn E)) (s1 ||| fl E x 2 (gn E))
    have b := Sc_bd (K := K) (R := R) (C := C) (dn3 (gn E) x 0) (tnF (gn E) tu x) (s0 ||| fl E x 1 (gn E)) (s1 ||| fl E x 2 (gn E))
    unfold zF
    omega
  obtain ⟨t, ht0⟩ : ∃ t, t = tnF (gn E) tu c := ⟨_, rfl⟩
  obtain ⟨v, hv⟩ : ∃ v : Nat → Int, v = fun j => bk (zF K R C E s0 s1 tu (c + 3 ^ j * (tnF (gn E) tu c + 1))) := ⟨_, rfl⟩
  rw [← hv] at zt
  have L : ∀ (dd j few mo : Nat) (o6 o7 : Option Value), j + dd = gn E → RI few mo (tp (fun k => decide (dg c k = 0)) v j) → mm_run (mm_pr tb_X11_solvesOne) (10, [some (.ref 39), some (.int (i32 c)), some (.int (i32 t)), some (.int (i32 few)), some (.int (i32 mo)), some (.int (i32 j)), o6, o7], [], (k + 64, e, (mm_RM r), I, J, A, B)) = some (.inl none, (k + 64, e, (mm_RM r), I, J, mm_up (mm_up A 52 c (i32 (val (tnF (gn E) tu c) (zF K R C E s0 s1 tu c)))) 53 c (i32 (las (zF K R C E s0 s1 tu c))), B)) := by
    intro dd
    induction dd with
    | zero =>
      intro j few mo o6 o7 hj hr
      have jn : j = gn E := by omega
      rw [jn, ← zt] at hr
      rw [sg_X11_solvesOne_10, g1, if_neg (by rw [i32_lt (by omega) (by omega)]; omega)]
      have z := zb c
      rcases hr with ⟨r1, r2, r3⟩ | ⟨r1, r2, r3, r4⟩
      · have e1 : val (tnF (gn E) tu c) (zF K R C E s0 s1 tu c) = 1 - t := by unfold val; rw [if_neg (by omega), ht0]
        have e2 : las (zF K R C E s0 s1 tu c) = mo := by unfold las; rw [if_neg (by omega)]; omega
        rw [e1, e2]
        simp (disch := omega) only [i32_l, iN_l, i32_add, i32_mul, i32_r0, i32_r1, run_bi, run_bi', i32_sub, decide_eq_true_eq, bi_rt, bi_em, bi_0, bi_1, i32_lt, i32_eq, iN_ne, iN_lt, iN_nlt, i32_ix, i32_in,  mm_aft_v, mm_aft_n, mm_aft_x, if_pos, if_neg, ite_true, ite_false, if_true, if_false, not_false_eq_true, not_true_eq_false, sg_X11_solvesOne_154, sg_X11_solvesOne_173]
      · have e1 : val (tnF (gn E) tu c) (zF K R C E s0 s1 tu c) = t := by unfold val; rw [if_pos (by omega), ht0]
        have e2 : las (zF K R C E s0 s1 tu c) = few := by unfold las; rw [if_pos (by omega)]; omega
        rw [e1, e2]
        simp (disch := omega) only [i32_l, iN_l, i32_add, i32_mul, i32_r0, i32_r1, run_bi, run_bi', i32_sub, decide_eq_true_eq, bi_rt, bi_em, bi_0, bi_1, i32_lt, i32_eq, iN_ne, iN_lt, iN_nlt, i32_ix, i32_in,  mm_aft_v, mm_aft_n, mm_aft_x, if_pos, if_neg, ite_true, ite_false, if_true, if_false, not_false_eq_true, not_true_eq_false, sg_X11_solvesOne_154, sg_X11_solvesOne_173]
    | succ dd ih =>
      intro j few mo o6 o7 hj hr
      have rb : few ≤ 1000 ∧ mo ≤ 10 := by
        rcases hr with r | r <;> omega
      have p3 := pow3_lt (j := j) (by omega)
      have hpb : 3 ^ j * (t + 1) ≤ 3 ^ j * 2 := Nat.mul_le_mul_left _ (by omega)
      rw [sg_X11_solvesOne_10, g1]
      simp (disch := omega) only [i32_l, iN_l, i32_add, i32_mul, i32_r0, i32_r1, run_bi, run_bi', i32_sub, decide_eq_true_eq, bi_rt, bi_em, bi_0, bi_1, i32_lt, i32_eq, iN_ne, iN_lt, iN_nlt, i32_ix, i32_in,  mm_aft_v, mm_aft_n, mm_aft_x, if_pos, if_neg, ite_true, ite_false, if_true, if_false, not_false_eq_true, not_true_eq_false, hT j (by omega)]
      rw [sp_Mdigit k r e I J A B hT (by omega) (by omega), mm_aft_v, sg_X11_solvesOne_41]
      by_cases q : dg c j = 0
      · have nb := put_lt (d := t + 1) q (by omega) (show j < gn E by omega) hc
        have ne : c < c + 3 ^ j * (t + 1) := by
          have : 0 < 3 ^ j * (t + 1) := Nat.mul_pos (Nat.pow_pos (by decide)) (by omega)
          omega
        have tn1 := tnF_put ht q (show j < gn E by omega) hl
        rw [← ht0] at tn1
        obtain ⟨v1, v2⟩ := hV _ ne nb (by rw [tn1]; omega)
        rw [tn1] at v1
        have z := zb (c + 3 ^ j * (t + 1))
        have vj : v j = bk (zF K R C E s0 s1 tu (c + 3 ^ j * (t + 1))) := by rw [hv, ht0]
        have un := tp_t (p := fun k => decide (dg c k = 0)) (v := v) (n := j) (decide_eq_true q)
        rw [vj] at un
        have lb : las (zF K R C E s0 s1 tu (c + 3 ^ j * (t + 1))) ≤ 9 := by
          unfold las
          split <;> omega
        by_cases w : 0 < zF K R C E s0 s1 tu (c + 3 ^ j * (t + 1))
        · have vv : val (1 - t) (zF K R C E s0 s1 tu (c + 3 ^ j * (t + 1))) = 1 - t := if_pos w
          rw [vv] at v1
          have r2 := RI_los hr (by omega) z.2.2
          rw [← un] at r2
          have nt : ¬ 1 - t = t := by omega
          by_cases y : mo < las (zF K R C E s0 s1 tu (c + 3 ^ j * (t + 1))) + 1
          · rw [if_pos y] at r2
            rw [← ih (j + 1) few _ (some (.int (i32 (c + 3 ^ j * (t + 1))))) (some (.int (i32 0))) (by omega) r2]
            simp (disch := omega) only [i32_l, iN_l, i32_add, i32_mul, i32_r0, i32_r1, run_bi, run_bi', i32_sub, decide_eq_true_eq, bi_rt, bi_em, bi_0, bi_1, i32_lt, i32_eq, iN_ne, iN_lt, iN_nlt, i32_ix, i32_in,  mm_aft_v, mm_aft_n, mm_aft_x, if_pos, if_neg, ite_true, ite_false, if_true, if_false, not_false_eq_true, not_true_eq_false, q, v1, v2, nt, y, sg_X11_solvesOne_60, sg_X11_solvesOne_92, sg_X11_solvesOne_93, sg_X11_solvesOne_127, sg_X11_solvesOne_129]
          · rw [if_neg y] at r2
            rw [← ih (j + 1) few _ (some (.int (i32 (c + 3 ^ j * (t + 1))))) (some (.int (i32 0))) (by omega) r2]
            simp (disch := omega) only [i32_l, iN_l, i32_add, i32_mul, i32_r0, i32_r1, run_bi, run_bi', i32_sub, decide_eq_true_eq, bi_rt, bi_em, bi_0, bi_1, i32_lt, i32_eq, iN_ne, iN_lt, iN_nlt, i32_ix, i32_in,  mm_aft_v, mm_aft_n, mm_aft_x, if_pos, if_neg, ite_true, ite_false, if_true, if_false, not_false_eq_true, not_true_eq_false, q, v1, v2, nt, y, sg_X11_solvesOne_60, sg_X11_solvesOne_92, sg_X11_solvesOne_93, sg_X11_solvesOne_125, sg_X11_solvesOne_127, sg_X11_solvesOne_129]
        · have vv : val (1 - t) (zF K R C E s0 s1 tu (c + 3 ^ j * (t + 1))) = t := by unfold val; rw [if_neg w]; omega
          rw [vv] at v1
          have r2 := RI_win hr z.2.1 (by omega)
          rw [← un] at r2
          by_cases y : las (zF K R C E s0 s1 tu (c + 3 ^ j * (t + 1))) + 1 < few
          · rw [if_pos y] at r2
            rw [← ih (j + 1) _ mo (some (.int (i32 (c + 3 ^ j * (t + 1))))) (some (.int (i32 1))) (by omega) r2]
            simp (disch := omega) only [i32_l, iN_l, i32_add, i32_mul, i32_r0, i32_r1, run_bi, run_bi', i32_sub, decide_eq_true_eq, bi_rt, bi_em, bi_0, bi_1, i32_lt, i32_eq, iN_ne, iN_lt, iN_nlt, i32_ix, i32_in,  mm_aft_v, mm_aft_n, mm_aft_x, if_pos, if_neg, ite_true, ite_false, if_true, if_false, not_false_eq_true, not_true_eq_false, q, v1, v2, y, sg_X11_solvesOne_60, sg_X11_solvesOne_93, sg_X11_solvesOne_125, sg_X11_solvesOne_127, sg_X11_solvesOne_129]
          · rw [if_neg y] at r2
            rw [← ih (j + 1) _ mo (some (.int (i32 (c + 3 ^ j * (t + 1))))) (some (.int (i32 1))) (by omega) r2]
            simp (disch := omega) only [i32_l, iN_l, i32_add, i32_mul, i32_r0, i32_r1, run_bi, run_bi', i32_sub, decide_eq_true_eq, bi_rt, bi_em, bi_0, bi_1, i32_lt, i32_eq, iN_ne, iN_lt, iN_nlt, i32_ix, i32_in,  mm_aft_v, mm_aft_n, mm_aft_x, if_pos, if_neg, ite_true, ite_false, if_true, if_false, not_false_eq_true, not_true_eq_false, q, v1, v2, y, sg_X11_solvesOne_60, sg_X11_solvesOne_92, sg_X11_solvesOne_93, sg_X11_solvesOne_125, sg_X11_solvesOne_127, sg_X11_solvesOne_129]
      · have un := tp_f (p := fun k => decide (dg c k = 0)) (v := v) (n := j) (decide_eq_false q)
        have hl3 := dg_lt c j
        rw [← un] at hr
        rw [← ih (j + 1) few mo (some (.int (i32 (c + 3 ^ j * (t + 1))))) o7 (by omega) hr]
        simp (disch := omega) only [i32_l, iN_l, i32_add, i32_mul, i32_r0, i32_r1, run_bi, run_bi', i32_sub, decide_eq_true_eq, bi_rt, bi_em, bi_0, bi_1, i32_lt, i32_eq, iN_ne, iN_lt, iN_nlt, i32_ix, i32_in,  mm_aft_v, mm_aft_n, mm_aft_x, if_pos, if_neg, ite_true, ite_false, if_true, if_false, not_false_eq_true, not_true_eq_false, q, sg_X11_solvesOne_129]
  rw [en_X11_solvesOne, sg_X11_solvesOne_0, ← ht0]
  have L0 := L (gn E) 0 1000 0 none none (by omega) (Or.inl ⟨rfl, by omega, rfl⟩)
  rw [← ht0] at L0
  exact L0
end
