/-! patterns: kept, class -/
def txV (tx : Nat → Nat → Nat) (pn : Nat) (tp : Nat → Nat) : Nat → Nat → Nat := fun p => if p = pn then tp else tx p
theorem PB.keep {pn : Nat} {ln : Nat → Nat} {tx : Nat → Nat → Nat} {t : Nat} {tp : Nat → Nat} (h : PB pn ln tx) (ht : t ≤ 30) (hs : scn tp t 0 0 = iN) : PB (pn + 1) (upN ln pn t) (txV tx pn tp) := by
  intro p hp
  unfold upN txV
  by_cases q : p = pn
  · rw [if_pos q, if_pos q]; exact ⟨ht, hs⟩
  · rw [if_neg q, if_neg q]; exact h p (by omega)
section
variable {pn : Nat} {ln : Nat → Nat} {tx : Nat → Nat → Nat} (e : Nat) (I : Nat → Nat → Int32) (J : Nat → Nat → Int64) (B : Nat → Nat → Int64)
theorem sp_chr (A : Nat → Nat → Int32) (hI : I 24 7 = i32 pn) (h6 : pn ≤ 6) {p i c : Nat} (hp : p < pn) (hi : i < 30) (hc : c < 256) (hA : A 26 (30 * p + i) = i32 c) : f_X5_character [.ref 24, .int (i32 p), .int (i32 i)] (79, e, mm_R0, I, J, A, B) = some (.inl (some (.int (i32 c))), (79, e, mm_R0, I, J, A, B)) := by
  have has := sp_hasPattern e I J A B hI h6 (i32 p)
  rw [cellP_i (by omega) (by omega), decide_eq_true hp] at has
  rw [en_X5_character, sg_X5_character_0, has, mm_aft_v, sg_X5_character_5, if_neg (show ¬ bi true = 0 by decide), if_neg (show ¬ i32 i < (0 : Int32) by rw [show (0 : Int32) = i32 0 from rfl, i32_lt (by omega) (by decide)]; omega), if_pos (show i32 i < (30 : Int32) from (i32_lt (b := 30) (by omega) (by decide)).2 hi), show (30 : Int32) = i32 30 from rfl, i32_mul, i32_add, if_pos ((i32_in (by omega)).2 (by omega)), i32_ix (by omega), show p * 30 + i = 30 * p + i by omega, hA, sg_X5_character_34, if_pos ((i32_in (by omega)).2 (by omega))]
theorem sp_trans6 (hI : I 24 7 = i32 pn) (h6 : pn ≤ 6) {p n r s : Nat} {t : Nat → Nat} (hp : p < pn) (hn : n ≤ 30) (hr : r < 4) (hs : s + 6 ≤ n) (ht : ∀ j, j < 6 → tol (t (s + j)) = true) : ∀ (dd j : Nat) (A : Nat → Nat → Int32) (o5 o6 o7 : Option Value), j + dd = 6 → A 27 p = i32 n → (∀ i, i < n → A 26 (30 * p + i) = i32 (t i)) → (0 < j → A 28 (4 * p + r) = i32 (nbw (fun j => men (t (s + j))) j)) → ∃ A' o5' o6' o7', mm_run (mm_pr tb_X5_translate) (16, [some (.ref 24), some (.int (i32 p)), some (.int (i32 r)), some (.int (i32 j)), some (.int (i32 (s + j))), o5, o6, o7], [], (79, e, mm_R0, I, J, A, B)) = mm_run (mm_pr tb_X5_translate) (16, [some (.ref 24), some (.int (i32 p)), some (.int (i32 r)), some (.int (i32 6)), some (.int (i32 (s + 6))), o5', o6', o7'], [], (79, e, mm_R0, I, J, A', B)) ∧ A' 28 (4 * p + r) = i32 (nbw (fun j => men (t (s + j))) 6) ∧ (∀ i, i ≠ 28 → A' i = A i) ∧ (∀ q, q ≠ 4 * p + r → A' 28 q = A 28 q) := by
  intro dd
  induction dd with
  | zero =>
    intro j A o5 o6 o7 hj h27 h26 h28
    have : j = 6 := by omega
    subst this
    exact ⟨A, o5, o6, o7, rfl, h28 (by decide), fun _ _ => rfl, fun _ _ => rfl⟩
  | succ dd ih =>
    intro j A o5 o6 o7 hj h27 h26 h28
    have hc : t (s + j) < 256 := by rcases tol_cases (ht j (by omega)) with z | z | z | z | z <;> omega
    have n124 : ¬ t (s + j) = 124 := by rcases tol_cases (ht j (by omega)) with z | z | z | z | z <;> omega
    have n33 : ¬ t (s + j) = 33 := by rcases tol_cases (ht j (by omega)) with z | z | z | z | z <;> omega
    have ml := men_16 (t (s + j))
    have un : nbw (fun j => men (t (s + j))) (j + 1) = nbw (fun j => men (t (s + j))) j ||| (men (t (s + j)) <<< (4 * j)) := rfl
    obtain ⟨A', o5', o6', o7', k1, k2, k3, k4⟩ := ih (j + 1) (mm_up A 28 (4 * p + r) (i32 (nbw (fun j => men (t (s + j))) (j + 1)))) (some (.int (i32 (t (s + j))))) (some (.int (i32 (4 * p + r)))) (some (.int (i32 (men (t (s + j)) <<< (4 * j))))) (by omega) (by rw [mm_up_ne1 _ _ _ _ _ _ (by decide)]; exact h27) (fun i hi => by rw [mm_up_ne1 _ _ _ _ _ _ (by decide)]; exact h26 i hi) (fun _ => mm_up_eq _ _ _ _)
    refine ⟨A', o5', o6', o7', ?_, k2, fun i hi => by rw [k3 i hi, mm_up_row _ _ _ _ _ hi], fun q hq => by rw [k4 q hq, mm_up_ne2 _ _ _ _ _ _ hq]⟩
    rw [← k1, sg_X5_translate_16, if_pos ((i32_in (by omega)).2 (by omega)), i32_ix (by omega), h27, if_pos ((i32_lt (by omega) (by omega)).2 (by omega)), if_pos (show i32 (s + j) < (30 : Int32) from (i32_lt (b := 30) (by omega) (by decide)).2 (by omega)), sp_chr e I J B A hI h6 hp (by omega) hc (h26 (s + j) (by omega)), mm_aft_v, sg_X5_translate_41, if_neg (show ¬ i32 (t (s + j)) = (124 : Int32) from fun z => n124 ((i32_eq (b := 124) (by omega) (by decide)).1 z)), if_neg (show ¬ i32 (t (s + j)) = (33 : Int32) from fun z => n33 ((i32_eq (b := 33) (by omega) (by decide)).1 z)), sp_meaning _ hc, mm_aft_v, sg_X5_translate_94, sh4 ml (by omega), show (4 : Int32) = i32 4 from rfl, i32_mul, i32_add, show p * 4 + r = 4 * p + r by omega, sg_X5_translate_98]
    have fin : mm_run (mm_pr tb_X5_translate) (125, [some (.ref 24), some (.int (i32 p)), some (.int (i32 r)), some (.int (i32 j)), some (.int (i32 (s + j))), some (.int (i32 (t (s + j)))), some (.int (i32 (4 * p + r))), some (.int (i32 (men (t (s + j)) <<< (4 * j))))], [.int (i32 (nbw (fun j => men (t (s + j))) (j + 1))), .int (i32 (4 * p + r)), .ref 28], (79, e, mm_R0, I, J, A, B)) = mm_run (mm_pr tb_X5_translate) (16, [some (.ref 24), some (.int (i32 p)), some (.int (i32 r)), some (.int (i32 (j + 1))), some (.int (i32 (s + (j + 1)))), some (.int (i32 (t (s + j)))), some (.int (i32 (4 * p + r))), some (.int (i32 (men (t (s + j)) <<< (4 * j))))], [], (79, e, mm_R0, I, J, mm_up A 28 (4 * p + r) (i32 (nbw (fun j => men (t (s + j))) (j + 1))), B)) := by
      rw [sg_X5_translate_125, if_pos ((i32_in (by omega)).2 (by omega)), i32_ix (by omega), sg_X5_translate_129]
      simp only [i32_l]
      rw [i32_add, i32_add, Nat.add_assoc]
    rw [← fin]
    by_cases z : j = 0
    · subst z
      rw [if_pos (show i32 0 = 0 from rfl)]
      have : nbw (fun j => men (t (s + j))) (0 + 1) = men (t (s + 0)) <<< (4 * 0) := by rw [un]; exact Nat.zero_or _
      rw [this]
    · rw [if_neg (show ¬ i32 j = 0 by rw [show (0 : Int32) = i32 0 from rfl, i32_eq (by omega) (by decide)]; exact z), if_pos ((i32_in (by omega)).2 (by omega)), i32_ix (by omega), h28 (by omega), i32_or, ← un]
theorem sp_trans (hI : I 24 7 = i32 pn) (h6 : pn ≤ 6) {p n : Nat} {t : Nat → Nat} (hp : p < pn) (hn : n ≤ 30) : ∀ (f r : Nat) (A : Nat → Nat → Int32) (o5 o6 o7 : Option Value), n ≤ stA t n r + 7 * f → stA t n r < n → scn t (n - stA t n r) (stA t n r) 0 = iN → 7 * r ≤ stA t n r → A 27 p = i32 n → (∀ i, i < n → A 26 (30 * p + i) = i32 (t i)) → ∃ A', mm_run (mm_pr tb_X5_translate) (16, [some (.ref 24), some (.int (i32 p)), some (.int (i32 r)), some (.int (i32 0)), some (.int (i32 (stA t n r))), o5, o6, o7], [], (79, e, mm_R0, I, J, A, B)) = some (.inl none, (79, e, mm_R0, I, J, A', B)) ∧ (∃ nr, r < nr ∧ A' 29 p = i32 nr ∧ nr ≤ 4 ∧ (∀ r', r ≤ r' → r' < nr → stA t n r' < n ∧ A' 28 (4 * p + r') = i32 (alW t n (stA t n r'))) ∧ ¬ stA t n nr < n) ∧ (∀ i, i ≠ 28 → i ≠ 29 → A' i = A i) ∧ (∀ q, q < 4 * p + r → A' 28 q = A 28 q) ∧ (∀ q, q ≠ p → A' 29 q = A 29 q) := by
  intro f
  induction f with
  | zero => intro r A o5 o6 o7 h1 h2; omega
  | succ f ih =>
    intro r A o5 o6 o7 h1 h2 h3 h4 h27 h26
    have un : stA t n (r + 1) = stA t n r + 6 + (if fxT t n (stA t n r) = true then 2 else 1) := rfl
    obtain ⟨c1, c2, c3, c4, c5⟩ := alt_next hn h2 h3
    have alt := (alt_step hn (by omega) h3).2.2
    rw [← un] at c3 c5
    have fx1 : fxT t n (stA t n r) = true → stA t n (r + 1) = stA t n r + 8 := fun z => by rw [un, if_pos z]
    have fx0 : fxT t n (stA t n r) = false → stA t n (r + 1) = stA t n r + 7 := fun z => by rw [un, z]; rfl
    obtain ⟨A1, p5, p6, p7, k1, k2, k3, k4⟩ := sp_trans6 e I J B hI h6 (p := p) (n := n) (r := r) (s := stA t n r) (t := t) hp hn (by omega) c1 c2 6 0 A o5 o6 o7 rfl h27 h26 (fun z => absurd z (Nat.lt_irrefl 0))
    generalize hs : stA t n r = s at *
    rw [Nat.add_zero] at k1
    -- the sign ! behind
    have st2 : ∃ A2 q5 q6 q7, mm_run (mm_pr tb_X5_translate) (16, [some (.ref 24), some (.int (i32 p)), some (.int (i32 r)), some (.int (i32 6)), some (.int (i32 (s + 6))), p5, p6, p7], [], (79, e, mm_R0, I, J, A1, B)) = mm_run (mm_pr tb_X5_translate) (16, [some (.ref 24), some (.int (i32 p)), some (.int (i32 r)), some (.int (i32 (if fxT t n s = true then 7 else 6))), some (.int (i32 (s + (if fxT t n s = true then 7 else 6)))), q5, q6, q7], [], (79, e, mm_R0, I, J, A2, B)) ∧ A2 28 (4 * p + r) = i32 (alW t n s) ∧ (∀ i, i ≠ 28 → A2 i = A1 i) ∧ (∀ q, q ≠ 4 * p + r → A2 28 q = A1 28 q) := by
      unfold alW
      cases y : fxT t n s with
      | false =>
        rw [if_neg (show ¬ false = true by decide), if_neg (show ¬ false = true by decide), Nat.or_zero]
        exact ⟨A1, p5, p6, p7, rfl, k2, fun _ _ => rfl, fun _ _ => rfl⟩
      | true =>
        obtain ⟨y1, y2⟩ := c4.1 y
        rw [if_pos rfl, if_pos rfl]
        refine ⟨mm_up A1 28 (4 * p + r) (i32 (nbw (fun j => men (t (s + j))) 6 ||| 2 ^ 24)), some (.int (i32 33)), some (.int (i32 (4 * p + r))), some (.int (i32 16777216)), ?_, mm_up_eq _ _ _ _, fun i hi => mm_up_row _ _ _ _ _ hi, fun q hq => mm_up_ne2 _ _ _ _ _ _ hq⟩
        rw [sg_X5_translate_16, if_pos ((i32_in (by omega)).2 (by omega)), i32_ix (by omega), k3 27 (by decide), h27, if_pos ((i32_lt (by omega) (by omega)).2 y1), if_pos (show i32 (s + 6) < (30 : Int32) from (i32_lt (b := 30) (by omega) (by decide)).2 (by omega)), sp_chr e I J B A1 hI h6 hp (by omega) (c := 33) (by decide) (by rw [k3 26 (by decide), h26 (s + 6) y1, y2]), mm_aft_v, sg_X5_translate_41, if_neg (show ¬ i32 33 = (124 : Int32) by decide), if_pos (show i32 33 = (33 : Int32) from rfl), show (4 : Int32) = i32 4 from rfl, i32_mul, i32_add, show p * 4 + r = 4 * p + r by omega, sg_X5_translate_98, if_neg (show ¬ i32 6 = 0 by decide), if_pos ((i32_in (by omega)).2 (by omega)), i32_ix (by omega), k2, sg_X5_translate_125, if_pos ((i32_in (by omega)).2 (by omega)), i32_ix (by omega), sg_X5_translate_129]
        simp only [i32_l]
        rw [i32_add, i32_add, i32_or]
    obtain ⟨A2, q5, q6, q7, l1, l2, l3, l4⟩ := st2
    obtain ⟨x, hx⟩ : ∃ x, x = s + (if fxT t n s = true then 7 else 6) := ⟨_, rfl⟩
    rw [← hx] at l1
    have r27 : A2 27 p = i32 n := by rw [l3 27 (by decide), k3 27 (by decide)]; exact h27
    have r26 : ∀ i, i < n → A2 26 (30 * p + i) = i32 (t i) := fun i hi => by rw [l3 26 (by decide), k3 26 (by decide)]; exact h26 i hi
    have sx1 : stA t n (r + 1) = x + 1 := by
      rw [hx]
      cases y : fxT t n s with
      | true => rw [fx1 y, if_pos rfl]
      | false => rw [fx0 y, if_neg (show ¬ false = true by decide)]
    have xs : s + 6 ≤ x ∧ x ≤ s + 7 := by
      rw [hx]
      cases fxT t n s with
      | true => rw [if_pos rfl]; omega
      | false => rw [if_neg (show ¬ false = true by decide)]; omega
    have xn : x ≤ n ∧ (x < n → t x = 124) := by
      rw [hx]
      rcases alt with z | ⟨z1, z2, _⟩ | ⟨z1, z2, z3⟩
      · have y : fxT t n s = false := bool_f (fun y => by have := (c4.1 y).1; omega)
        rw [y, if_neg (show ¬ false = true by decide)]
        exact ⟨by omega, fun w => by omega⟩
      · have y : fxT t n s = false := bool_f (fun y => by have := (c4.1 y).2; omega)
        rw [y, if_neg (show ¬ false = true by decide)]
        exact ⟨by omega, fun _ => z1⟩
      · have y : fxT t n s = true := c4.2 ⟨by omega, z1⟩
        rw [y, if_pos rfl]
        exact ⟨z2, fun w => (z3.resolve_left (by omega)).1⟩
    by_cases en : x < n
    · have lt1 : stA t n (r + 1) < n := by omega
      obtain ⟨d1, _, _⟩ := alt_step hn (by omega) (c3 lt1)
      obtain ⟨A', m1, ⟨nr, m2, m3, m4, m5, m6⟩, m7, m8, m9⟩ := ih (r + 1) A2 (some (.int (i32 124))) q6 q7 (by omega) lt1 (c3 lt1) (by omega) r27 r26
      refine ⟨A', ?_, ⟨nr, by omega, m3, m4, fun r' hr' hr2 => ?_, m6⟩, fun i i1 i2 => by rw [m7 i i1 i2, l3 i i1, k3 i i1], fun q hq => by rw [m8 q (by omega), l4 q (by omega), k4 q (by omega)], fun q hq => by rw [m9 q hq, l3 29 (by decide), k3 29 (by decide)]⟩
      · rw [← m1, k1, l1, sg_X5_translate_16, if_pos ((i32_in (by omega)).2 (by omega)), i32_ix (by omega), r27, if_pos ((i32_lt (by omega) (by omega)).2 en), if_pos (show i32 x < (30 : Int32) from (i32_lt (b := 30) (by omega) (by decide)).2 (by omega)), sp_chr e I J B A2 hI h6 hp (by omega) (c := 124) (by decide) (by rw [r26 x en, xn.2 en]), mm_aft_v, sg_X5_translate_41, if_pos (show i32 124 = (124 : Int32) from rfl), show (1 : Int32) = i32 1 from rfl, i32_add, if_pos (show i32 (r + 1) < (4 : Int32) from (i32_lt (b := 4) (by omega) (by decide)).2 (by omega)), sg_X5_translate_63, i32_add, sg_X5_translate_129, show (1 : Int32) = i32 1 from rfl, i32_add, ← sx1]
        rfl
      · by_cases y : r' = r
        · subst y
          rw [hs]
          refine ⟨h2, ?_⟩
          rw [m8 (4 * p + r') (by omega)]
          exact l2
        · exact m5 r' (by omega) hr2
    · refine ⟨mm_up A2 29 p (i32 (r + 1)), ?_, ⟨r + 1, by omega, mm_up_eq _ _ _ _, by omega, fun r' hr' hr2 => ?_, by omega⟩, fun i i1 i2 => by rw [mm_up_row _ _ _ _ _ i2, l3 i i1, k3 i i1], fun q hq => by rw [mm_up_ne1 _ _ _ _ _ _ (by decide), l4 q (by omega), k4 q (by omega)], fun q hq => by rw [mm_up_ne2 _ _ _ _ _ _ hq, l3 29 (by decide), k3 29 (by decide)]⟩
      · rw [k1, l1, sg_X5_translate_16, if_pos ((i32_in (by omega)).2 (by omega)), i32_ix (by omega), r27, if_neg (fun z => en ((i32_lt (by omega) (by omega)).1 z)), sg_X5_translate_135, if_pos ((i32_in (by omega)).2 (by omega)), i32_ix (a := p) (by omega), show (1 : Int32) = i32 1 from rfl, i32_add]
      · have : r' = r := by omega
        subst this
        rw [hs, mm_up_ne1 _ _ _ _ _ _ (by decide)]
        exact ⟨h2, l2⟩
end
