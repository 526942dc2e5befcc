/-! patterns: the call, both sides -/
section
variable {pn : Nat} {ln : Nat → Nat} {tx : Nat → Nat → Nat} {t : Nat} {tp : Nat → Nat} (e : Nat) (I : Nat → Nat → Int32) (J : Nat → Nat → Int64) (A : Nat → Nat → Int32) (B : Nat → Nat → Int64)
theorem sp_keep (hY : YC t tp I A) (hYB : YB t tp) (hP : PC pn ln tx I A) (hB : PB pn ln tx) (hR : PR pn ln tx A) (hn : pn < 6) (hs : scn tp t 0 0 = iN) : ∃ I' A', f_X5_keep [.ref 24] (79, e, mm_R0, I, J, A, B) = some (.inl (some (.int (i32 pn))), (79, e, mm_R0, I', J, A', B)) ∧ YC 0 tp I' A' ∧ PC (pn + 1) (upN ln pn t) (txV tx pn tp) I' A' ∧ PR (pn + 1) (upN ln pn t) (txV tx pn tp) A' ∧ FY I I' A A' := by
  obtain ⟨y1, y2, y3⟩ := hY
  obtain ⟨p1, p2, p3⟩ := hP
  have t0 : 0 < t := by
    by_cases z : t = 0
    · subst z
      have : scn tp 0 0 0 = i32 0 := rfl
      rw [this] at hs
      exact absurd hs (by decide)
    · omega
  obtain ⟨I1, hI1⟩ : ∃ I1, I1 = mm_up (mm_up I 24 7 (i32 (pn + 1))) 24 6 (i32 0) := ⟨_, rfl⟩
  have i7 : I1 24 7 = i32 (pn + 1) := by rw [hI1, mm_up_ne2 _ _ _ _ _ _ (by decide), mm_up_eq]
  have i6 : I1 24 6 = i32 0 := by rw [hI1, mm_up_eq]
  have L : ∀ (dd i : Nat) (A1 : Nat → Nat → Int32), i + dd = t → (∀ j, j < i → A1 26 (30 * pn + j) = i32 (tp j)) → (∀ q, q < 30 * pn → A1 26 q = A 26 q) → (∀ j, j ≠ 26 → A1 j = A j) → ∃ A', mm_run (mm_pr tb_X5_keep) (20, [some (.ref 24), some (.int (i32 i))], [], (79, e, mm_R0, I, J, A1, B)) = mm_run (mm_pr tb_X5_keep) (60, [some (.ref 24), some (.int (i32 t))], [], (79, e, mm_R0, I, J, A', B)) ∧ (∀ j, j < t → A' 26 (30 * pn + j) = i32 (tp j)) ∧ (∀ q, q < 30 * pn → A' 26 q = A 26 q) ∧ (∀ j, j ≠ 26 → A' j = A j) := by
    intro dd
    induction dd with
    | zero =>
      intro i A1 hi h1 h2 h3
      have : i = t := by omega
      subst this
      refine ⟨A1, ?_, h1, h2, h3⟩
      rw [sg_X5_keep_20, y1, if_neg (by rw [i32_lt (by omega) (by omega)]; omega)]
    | succ dd ih =>
      intro i A1 hi h1 h2 h3
      have hc := sgn_lt (hYB i (by omega))
      obtain ⟨A', k1, k2⟩ := ih (i + 1) (mm_up A1 26 (30 * pn + i) (i32 (tp i))) (by omega) (fun j hj => by
        by_cases q : j = i
        · subst q; rw [mm_up_eq]
        · rw [mm_up_ne2 _ _ _ _ _ _ (by omega)]; exact h1 j (by omega)) (fun q hq => by rw [mm_up_ne2 _ _ _ _ _ _ (by omega)]; exact h2 q hq) (fun j hj => by rw [mm_up_row _ _ _ _ _ hj]; exact h3 j hj)
      refine ⟨A', ?_, k2⟩
      rw [← k1, sg_X5_keep_20, y1, if_pos ((i32_lt (by omega) (by omega)).2 (by omega)), if_pos (show i32 i < (30 : Int32) from (i32_lt (b := 30) (by omega) (by decide)).2 (by omega)), if_pos ((i32_in (by omega)).2 (by omega)), p1, show (30 : Int32) = i32 30 from rfl, i32_mul, i32_add, if_pos ((i32_in (by omega)).2 (by omega)), i32_ix (by omega), i32_ix (by omega), show pn * 30 + i = 30 * pn + i by omega, h3 25 (by decide), y3 i (by omega), ch16b hc]
      simp only [i32_l]
      rw [i32_add]
  obtain ⟨A1, a1, a2, a3, a4⟩ := L t 0 A (by omega) (fun j hj => absurd hj (Nat.not_lt_zero _)) (fun _ _ => rfl) (fun _ _ => rfl)
  obtain ⟨A2, hA2⟩ : ∃ A2, A2 = mm_up (mm_up A1 27 pn (i32 t)) 29 pn (i32 0) := ⟨_, rfl⟩
  have s0 : stA tp t 0 = 0 := rfl
  obtain ⟨A3, m1, ⟨nr, m2, m3, m4, m5, m6⟩, m7, m8, m9⟩ := sp_trans (pn := pn + 1) e I1 J B i7 (by omega) (p := pn) (n := t) (t := tp) (by omega) y2 5 0 A2 none none none (by rw [s0]; omega) (by rw [s0]; exact t0) (by rw [s0]; exact hs) (by rw [s0]; omega) (by rw [hA2, mm_up_ne1 _ _ _ _ _ _ (by decide), mm_up_eq]) (fun i hi => by rw [hA2, mm_up_ne1 _ _ _ _ _ _ (by decide), mm_up_ne1 _ _ _ _ _ _ (by decide)]; exact a2 i hi)
  refine ⟨I1, A3, ?_, ⟨i6, by decide, fun j hj => absurd hj (Nat.not_lt_zero _)⟩, ⟨i7, by omega, fun p hp => ?_⟩, fun p hp => ?_, ⟨fun i hi => ?_, fun p q1 q2 => ?_, fun i hi => ?_⟩⟩
  · rw [en_X5_keep, sg_X5_keep_0, p1, if_neg (show ¬ i32 pn < (0 : Int32) by rw [show (0 : Int32) = i32 0 from rfl, i32_lt (by omega) (by decide)]; omega), if_pos (show i32 pn < (6 : Int32) from (i32_lt (b := 6) (by omega) (by decide)).2 hn)]
    have a1' : mm_run (mm_pr tb_X5_keep) (20, [some (.ref 24), some (.int (0 : Int32))], [], (79, e, mm_R0, I, J, A, B)) = _ := a1
    rw [a1', sg_X5_keep_60, p1, y1, if_pos ((i32_in (by omega)).2 (by omega)), if_pos ((i32_in (by omega)).2 (by omega)), i32_ix (by omega)]
    simp only [i32_l]
    rw [i32_add, i32_sub (by omega), Nat.add_sub_cancel, ← hI1, ← hA2, en_X5_translate, sg_X5_translate_0, sp_hasPattern e I1 J A2 B i7 (by omega), cellP_i (by omega) (by omega), decide_eq_true (show pn < pn + 1 by omega), mm_aft_v, sg_X5_translate_5, if_neg (show ¬ bi true = 0 by decide)]
    have m1' : mm_run (mm_pr tb_X5_translate) (16, [some (.ref 24), some (.int (i32 pn)), some (.int (0 : Int32)), some (.int (0 : Int32)), some (.int (0 : Int32)), none, none, none], [], (79, e, mm_R0, I1, J, A2, B)) = _ := m1
    rw [m1', mm_aft_n, sg_X5_keep_108, i7, show (1 : Int32) = i32 1 from rfl, i32_sub (by omega), Nat.add_sub_cancel]
  · unfold upN txV
    by_cases q : p = pn
    · subst q
      rw [if_pos rfl, if_pos rfl]
      refine ⟨?_, fun i hi => ?_⟩
      · rw [m7 27 (by decide) (by decide), hA2, mm_up_ne1 _ _ _ _ _ _ (by decide), mm_up_eq]
      · rw [m7 26 (by decide) (by decide), hA2, mm_up_ne1 _ _ _ _ _ _ (by decide), mm_up_ne1 _ _ _ _ _ _ (by decide)]; exact a2 i hi
    · have b := (hB p (by omega)).1
      obtain ⟨g1, g2⟩ := p3 p (by omega)
      rw [if_neg q, if_neg q]
      refine ⟨?_, fun i hi => ?_⟩
      · rw [m7 27 (by decide) (by decide), hA2, mm_up_ne1 _ _ _ _ _ _ (by decide), mm_up_ne2 _ _ _ _ _ _ q, a4 27 (by decide)]; exact g1
      · rw [m7 26 (by decide) (by decide), hA2, mm_up_ne1 _ _ _ _ _ _ (by decide), mm_up_ne1 _ _ _ _ _ _ (by decide), a3 _ (by omega)]; exact g2 i hi
  · unfold upN txV
    by_cases q : p = pn
    · subst q
      rw [if_pos rfl, if_pos rfl]
      exact ⟨nr, m3, m4, fun r hr => m5 r (Nat.zero_le _) hr, m6⟩
    · obtain ⟨mr, r1, r2, r3, r4⟩ := hR p (by omega)
      rw [if_neg q, if_neg q]
      refine ⟨mr, ?_, r2, fun r hr => ⟨(r3 r hr).1, ?_⟩, r4⟩
      · rw [m9 p q, hA2, mm_up_ne2 _ _ _ _ _ _ q, mm_up_ne1 _ _ _ _ _ _ (by decide), a4 29 (by decide)]; exact r1
      · rw [m8 _ (by omega), hA2, mm_up_ne1 _ _ _ _ _ _ (by decide), mm_up_ne1 _ _ _ _ _ _ (by decide), a4 28 (by decide)]; exact (r3 r hr).2
  · rw [hI1, mm_up_row _ _ _ _ _ hi, mm_up_row _ _ _ _ _ hi]
  · rw [hI1, mm_up_ne2 _ _ _ _ _ _ q1, mm_up_ne2 _ _ _ _ _ _ q2]
  · rw [m7 i (by omega) (by omega), hA2, mm_up_row _ _ _ _ _ (by omega), mm_up_row _ _ _ _ _ (by omega), a4 i (by omega)]
theorem cC_pattern_1 (hY : YC t tp I A) (hYB : YB t tp) (hs : ¬ scn tp t 0 0 = iN) : f_X10_pattern [.ref 0] (79, e, mm_R0, I, J, A, B) = some (.inr 2, (79, e + 1, mm_R0, I, J, A, B)) := by
  rw [en_X10_pattern, sg_X10_pattern_0, sp_firstFault e I J A B hY hYB, mm_aft_v, sg_X10_pattern_7, if_neg (show ¬ scn tp t 0 0 = (-1 : Int32) from hs)]
theorem cC_pattern_2 (hY : YC t tp I A) (hYB : YB t tp) (hP : PC pn ln tx I A) (hs : scn tp t 0 0 = iN) (hn : ¬ pn < 6) : f_X10_pattern [.ref 0] (79, e, mm_R0, I, J, A, B) = some (.inr 3, (79, e + 1, mm_R0, I, J, A, B)) := by
  have := hP.2.1
  rw [en_X10_pattern, sg_X10_pattern_0, sp_firstFault e I J A B hY hYB, mm_aft_v, sg_X10_pattern_7, if_pos (show scn tp t 0 0 = (-1 : Int32) from hs), hP.1, if_neg (show ¬ i32 pn < (6 : Int32) from fun z => hn ((i32_lt (b := 6) (by omega) (by decide)).1 z))]
theorem cC_pattern (hY : YC t tp I A) (hYB : YB t tp) (hP : PC pn ln tx I A) (hB : PB pn ln tx) (hR : PR pn ln tx A) (hn : pn < 6) (hs : scn tp t 0 0 = iN) : ∃ I' A', f_X10_pattern [.ref 0] (79, e, mm_R0, I, J, A, B) = some (.inl (some (.int (i32 pn))), (79, e, mm_R0, I', J, A', B)) ∧ YC 0 tp I' A' ∧ PC (pn + 1) (upN ln pn t) (txV tx pn tp) I' A' ∧ PR (pn + 1) (upN ln pn t) (txV tx pn tp) A' ∧ FY I I' A A' := by
  obtain ⟨I', A', a1, a2⟩ := sp_keep e I J A B hY hYB hP hB hR hn hs
  refine ⟨I', A', ?_, a2⟩
  rw [en_X10_pattern, sg_X10_pattern_0, sp_firstFault e I J A B hY hYB, mm_aft_v, sg_X10_pattern_7, if_pos (show scn tp t 0 0 = (-1 : Int32) from hs), hP.1, if_pos (show i32 pn < (6 : Int32) from (i32_lt (b := 6) (by omega) (by decide)).2 hn), a1, mm_aft_v, sg_X10_pattern_52]
end
section
variable {pn : Nat} {ln : Nat → Nat} {tx : Nat → Nat → Nat} {t : Nat} {tp : Nat → Nat} (k : Nat) (r : Nat → Nat → Value) (e : Nat) (I : Nat → Nat → Int32) (J : Nat → Nat → Int64) (A : Nat → Nat → Int32) (B : Nat → Nat → Int64)
end
