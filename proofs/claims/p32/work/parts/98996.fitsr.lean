/-! patterns: how they fit, class, by their rows -/
def stA (t : Nat → Nat) (n : Nat) : Nat → Nat
  | 0 => 0
  | r + 1 => stA t n r + 6 + (if fxT t n (stA t n r) = true then 2 else 1)
abbrev PR1 (n : Nat) (t : Nat → Nat) (p : Nat) (A : Nat → Nat → Int32) : Prop := ∃ nr, A 29 p = i32 nr ∧ nr ≤ 4 ∧ (∀ r, r < nr → stA t n r < n ∧ A 28 (4 * p + r) = i32 (alW t n (stA t n r))) ∧ ¬ stA t n nr < n
abbrev PR (pn : Nat) (ln : Nat → Nat) (tx : Nat → Nat → Nat) (A : Nat → Nat → Int32) : Prop := ∀ p, p < pn → PR1 (ln p) (tx p) p A
section
variable {K R C : Nat} {lg : Nat → Nat} {m : Nat} {sw : Bool} {pn : Nat} {ln : Nat → Nat} {tx : Nat → Nat → Nat} (e : Nat) (I : Nat → Nat → Int32) (J : Nat → Nat → Int64) (A : Nat → Nat → Int32) (B : Nat → Nat → Int64)
theorem thV_pow (own oth : Int64) (cl d : Nat) : ∃ b, b < 4 ∧ thV K R C own oth cl d = 2 ^ b := by
  unfold thV
  split
  · exact ⟨3, by decide, rfl⟩
  · split
    · exact ⟨1, by decide, rfl⟩
    · split
      · exact ⟨2, by decide, rfl⟩
      · exact ⟨0, by decide, rfl⟩
theorem sp_surroundings (h : CB K R C I J A B) {cl : Nat} (hcl : cl < bN K R C) (own oth : Int64) : f_X5_surroundings [.ref 24, .int (i32 cl), .long own, .long oth] (79, e, mm_R0, I, J, A, B) = some (.inl (some (.int (i32 (nbw (thV K R C own oth cl) 6)))), (79, e, mm_R0, I, J, A, B)) := by
  have hN := bN_le h.v
  have L : ∀ (dd d : Nat), d + dd = 6 → mm_run (mm_pr tb_X5_surroundings) (6, [some (.ref 24), some (.int (i32 cl)), some (.long own), none, some (.long oth), none, some (.int (i32 (nbw (thV K R C own oth cl) d))), some (.int (i32 d))], [], (79, e, mm_R0, I, J, A, B)) = some (.inl (some (.int (i32 (nbw (thV K R C own oth cl) 6)))), (79, e, mm_R0, I, J, A, B)) := by
    intro dd
    induction dd with
    | zero =>
      intro d hd
      have : d = 6 := by omega
      subst this
      rw [sg_X5_surroundings_6, if_neg (show ¬ i32 6 < (6 : Int32) by decide)]
    | succ dd ih =>
      intro d hd
      have tl := thV_le (K := K) (R := R) (C := C) own oth cl d
      have un : nbw (thV K R C own oth cl) (d + 1) = nbw (thV K R C own oth cl) d ||| (thV K R C own oth cl d <<< (4 * d)) := rfl
      rw [sg_X5_surroundings_6, if_pos (show i32 d < (6 : Int32) from (i32_lt (b := 6) (by omega) (by decide)).2 (by omega)), sp0_next e I J A B h hcl (by omega), mm_aft_v, sg_X5_surroundings_25, sp_thing _ h.v hcl (by omega), mm_aft_v, sg_X5_surroundings_31, sh4 (by omega) (by omega), i32_or, ← un]
      simp only [i32_l]
      rw [i32_add]
      exact ih (d + 1) (by omega)
  rw [en_X5_surroundings, sg_X5_surroundings_0]
  exact L 6 0 rfl
theorem sp_rowsFit (hP : I 24 7 = i32 pn) (h6 : pn ≤ 6) {pt : Nat} (hpt : pt < pn) {n : Nat} {t th : Nat → Nat} (hR : PR1 n t pt A) (ht : ∀ d, ∃ b, b < 4 ∧ th d = 2 ^ b) : f_X5_rowsFit [.ref 24, .int (i32 pt), .int (i32 (nbw th 6))] (79, e, mm_R0, I, J, A, B) = some (.inl (some (.int (bi (fitF t n th 5 0)))), (79, e, mm_R0, I, J, A, B)) := by
  obtain ⟨nr, r1, r2, r3, r4⟩ := hR
  have has := sp_hasPattern e I J A B hP h6 (i32 pt)
  rw [cellP_i (by omega) (by omega), decide_eq_true hpt] at has
  have L : ∀ (f r : Nat), f + r = 5 → r ≤ nr → mm_run (mm_pr tb_X5_rowsFit) (12, [some (.ref 24), some (.int (i32 pt)), some (.int (i32 (nbw th 6))), some (.int (i32 r))], [], (79, e, mm_R0, I, J, A, B)) = some (.inl (some (.int (bi (fitF t n th f (stA t n r))))), (79, e, mm_R0, I, J, A, B)) := by
    intro f
    induction f with
    | zero => intro r hr hn; omega
    | succ f ih =>
      intro r hr hn
      have un : fitF t n th (f + 1) (stA t n r) = if stA t n r < n then (exB (fitT t th (stA t n r)) (if fxT t n (stA t n r) = true then 1 else 6) || fitF t n th f (stA t n (r + 1))) else false := rfl
      rw [sg_X5_rowsFit_12, if_pos ((i32_in (by omega)).2 (by omega)), i32_ix (by omega), r1]
      by_cases c : r < nr
      · obtain ⟨q1, q2⟩ := r3 r c
        rw [un, if_pos q1, if_pos ((i32_lt (by omega) (by omega)).2 c), if_pos (show i32 r < (4 : Int32) from (i32_lt (b := 4) (by omega) (by decide)).2 (by omega)), show (4 : Int32) = i32 4 from rfl, i32_mul, i32_add, if_pos ((i32_in (by omega)).2 (by omega)), i32_ix (by omega), show pt * 4 + r = 4 * pt + r by omega, q2, sp_rowFits _ ht, mm_aft_v, sg_X5_rowsFit_41]
        cases x : exB (fitT t th (stA t n r)) (if fxT t n (stA t n r) = true then 1 else 6) with
        | true => rw [if_neg (show ¬ bi true = 0 by decide)]; rfl
        | false =>
          rw [if_pos (show bi false = 0 from rfl), Bool.false_or]
          simp only [i32_l]
          rw [i32_add]
          exact ih (r + 1) (by omega) (by omega)
      · have : r = nr := by omega
        subst this
        rw [un, if_neg r4, if_neg (fun z => c ((i32_lt (by omega) (by omega)).1 z)), sg_X5_rowsFit_52]
        rfl
  rw [en_X5_rowsFit, sg_X5_rowsFit_0, has, mm_aft_v, sg_X5_rowsFit_5, if_neg (show ¬ bi true = 0 by decide)]
  exact L 5 0 rfl (Nat.zero_le _)
theorem sp_byRows (h : CB K R C I J A B) (hP : PC pn ln tx I A) (hR : PR pn ln tx A) {pt : Nat} (hpt : pt < pn) (own oth : Int64) {em : Int64} (hem : ∀ c, c < bN K R C → mb em c = !(mb own c || mb oth c)) : f_X5_placesByRows [.ref 24, .int (i32 pt), .long own, .long oth] (79, e, mm_R0, I, J, A, B) = some (.inl (some (.long (fitW K R C (tx pt) (ln pt) own oth em))), (79, e, mm_R0, I, J, A, B)) := by
  have hN := bN_le h.v
  unfold fitW
  obtain ⟨F, hF⟩ : ∃ F : Nat → Bool, F = (fun c => mb em c && fitF (tx pt) (ln pt) (thV K R C own oth c) 5 0) := ⟨_, rfl⟩
  rw [← hF]
  have L : ∀ (dd c : Nat), c + dd = bN K R C → mm_run (mm_pr tb_X5_placesByRows) (6, [some (.ref 24), some (.int (i32 pt)), some (.long own), none, some (.long oth), none, some (.long (ms F c)), none, some (.int (i32 c))], [], (79, e, mm_R0, I, J, A, B)) = some (.inl (some (.long (ms F (bN K R C)))), (79, e, mm_R0, I, J, A, B)) := by
    intro dd
    induction dd with
    | zero =>
      intro c hc
      have : c = bN K R C := by omega
      rw [sg_X5_placesByRows_6, h.cells, if_neg (by rw [i32_lt (by omega) (by omega)]; omega), this]
    | succ dd ih =>
      intro c hc
      have un : ms F (c + 1) = ms F c ||| (if F c = true then mbit c else 0) := rfl
      have un2 : F c = (mb em c && fitF (tx pt) (ln pt) (thV K R C own oth c) 5 0) := by rw [hF]
      have nx := ih (c + 1) (by omega)
      rw [un, un2, hem c (by omega)] at nx
      rw [sg_X5_placesByRows_6, h.cells, if_pos ((i32_lt (by omega) (by omega)).2 (by omega)), sp_has _ _ (by omega), mm_aft_v, mb_or, sg_X5_placesByRows_27]
      cases y : (mb own c || mb oth c) with
      | true =>
        rw [y, Bool.not_true, Bool.false_and, if_neg (show ¬ false = true by decide), or_zero64] at nx
        rw [if_neg (show ¬ bi true = 0 by decide), sg_X5_placesByRows_56]
        simp only [i32_l]
        rw [i32_add]
        exact nx
      | false =>
        rw [y, Bool.not_false, Bool.true_and] at nx
        rw [if_pos (show bi false = 0 from rfl), sp_surroundings e I J A B h (by omega) own oth, mm_aft_v, sg_X5_placesByRows_41, sp_rowsFit e I J A B hP.1 hP.2.1 hpt (hR pt hpt) (thV_pow own oth c), mm_aft_v, sg_X5_placesByRows_44, sg_X5_placesByRows_56, sg_X5_placesByRows_56]
        simp only [i32_l]
        rw [i32_add]
        cases x : fitF (tx pt) (ln pt) (thV K R C own oth c) 5 0 with
        | false =>
          rw [x, if_neg (show ¬ false = true by decide), or_zero64] at nx
          rw [if_pos (show bi false = i32 0 from rfl)]
          exact nx
        | true =>
          rw [x, if_pos rfl] at nx
          rw [if_neg (show ¬ bi true = i32 0 by decide)]
          exact nx
  rw [en_X5_placesByRows, sg_X5_placesByRows_0]
  exact L (bN K R C) 0 (by omega)
theorem cC_fits_1 (hP : PC pn ln tx I A) {x y : Int32} (hx : (cellP pn x && plaP y) = false) : f_X10_fits [.ref 0, .int x, .int y] (79, e, mm_R0, I, J, A, B) = some (.inr 1, (79, e + 1, mm_R0, I, J, A, B)) := by
  rw [en_X10_fits, sg_X10_fits_0, sp_hasPattern e I J A B hP.1 hP.2.1, mm_aft_v, sg_X10_fits_8]
  cases q : cellP pn x with
  | false => rw [if_pos (show bi false = 0 from rfl), sg_X10_fits_18]
  | true =>
    rw [q, Bool.true_and] at hx
    rw [if_neg (show ¬ bi true = 0 by decide), sp_isPlayerP, mm_aft_v, hx, sg_X10_fits_15, if_pos (show bi false = 0 from rfl), sg_X10_fits_18]
theorem cC_fits (h : CG K R C lg m sw I J A B) (hP : PC pn ln tx I A) (hR : PR pn ln tx A) {p pt : Nat} (hp : p < 2) (hpt : pt < pn) : f_X10_fits [.ref 0, .int (i32 pt), .int (i32 p)] (79, e, mm_R0, I, J, A, B) = some (.inl (some (.long (fitW K R C (tx pt) (ln pt) (sN lg m sw p) (sN lg m sw (1 - p)) (emp (bN K R C) (sN lg m sw 0) (sN lg m sw 1))))), (79, e, mm_R0, I, J, A, B)) := by
  have h6 := hP.2.1
  rw [en_X10_fits, sg_X10_fits_0, sp_hasPattern e I J A B hP.1 hP.2.1, mm_aft_v, sg_X10_fits_8, cellP_i (by omega) (by omega), decide_eq_true hpt, if_neg (show ¬ bi true = 0 by decide), sp_isPlayerP, mm_aft_v, plaP_i hp, sg_X10_fits_15, if_neg (show ¬ bi true = 0 by decide), sp0_stones e I J A B h hp, mm_aft_v, sg_X10_fits_42, show (1 : Int32) = i32 1 from rfl, i32_sub (by omega), sp0_stones e I J A B h (by omega), mm_aft_v, sg_X10_fits_52, sp_byRows e I J A B h.1 hP hR hpt _ _ (emp_pp h.1.v hp), mm_aft_v, sg_X10_fits_55]
end
