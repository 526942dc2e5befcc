/-! cell: what it answers -/
def noV (lg : Nat → Nat) (f c : Nat) : Nat → Nat
  | 0 => 0
  | i + 1 => if f ≤ i ∧ lg i = c then i else noV lg f c i
theorem noV_of {lg : Nat → Nat} {f c i : Nat} : ∀ m, f ≤ i → i < m → lg i = c → (∀ j, i < j → j < m → lg j ≠ c) → noV lg f c m = i := by
  intro m
  induction m with
  | zero => intro _ h; omega
  | succ m ih =>
    intro h1 h2 h3 h4
    have un : noV lg f c (m + 1) = if f ≤ m ∧ lg m = c then m else noV lg f c m := rfl
    rw [un]
    by_cases q : i = m
    · rw [q] at h3 h1; rw [if_pos ⟨h1, h3⟩, q]
    · rw [if_neg (fun z => h4 m (by omega) (by omega) z.2)]
      exact ih h1 (by omega) h3 (fun j a b => h4 j a (by omega))
noncomputable def grC (K R C : Nat) (lg : Nat → Nat) (m : Nat) (sw : Bool) (c : Nat) : Int64 := rcB K R C (mbit c) (if mb (sN lg m sw 0) c = true then sN lg m sw 0 else sN lg m sw 1)
noncomputable def clV (K R C : Nat) (lg : Nat → Nat) (m : Nat) (sw : Bool) (c w : Nat) : Int32 :=
  if w = 4 then i32 (bRo K C c) else if w = 5 then i32 (bCo K C c) else if mb (emp (bN K R C) (sN lg m sw 0) (sN lg m sw 1)) c = true then iN else if w = 0 then (if mb (sN lg m sw 0) c = true then i32 0 else i32 1) else if w = 6 then i32 (noV lg (kf sw m) c m) else if w = 1 then i32 (gn (grC K R C lg m sw c)) else if w = 2 then soF K R C (grC K R C lg m sw c) (bSd K) else i32 (mlo (grC K R C lg m sw c))
theorem gr_facts {K R C : Nat} {lg : Nat → Nat} {m : Nat} {sw : Bool} (w : WG K R C lg m sw) {c : Nat} (hc : c < bN K R C) (he : mb (emp (bN K R C) (sN lg m sw 0) (sN lg m sw 1)) c = false) : (mb (sN lg m sw 0) c = true ∨ (mb (sN lg m sw 0) c = false ∧ mb (sN lg m sw 1) c = true)) ∧ (∀ d, mb (grC K R C lg m sw c) d = true → d < 36) ∧ mcnt (grC K R C lg m sw c) = gn (grC K R C lg m sw c) ∧ ¬ grC K R C lg m sw c = 0 ∧ ∃ i, kf sw m ≤ i ∧ i < m ∧ lg i = c ∧ (∀ j, kf sw m ≤ j → j < i → lg j ≠ c) ∧ (∀ j, i < j → j < m → lg j ≠ c) := by
  have hN := bN_le w.1
  have ow : mb (sN lg m sw 0) c = true ∨ (mb (sN lg m sw 0) c = false ∧ mb (sN lg m sw 1) c = true) := by
    cases q0 : mb (sN lg m sw 0) c with
    | true => exact Or.inl rfl
    | false =>
      refine Or.inr ⟨rfl, ?_⟩
      cases q1 : mb (sN lg m sw 1) c with
      | true => rfl
      | false => rw [(emp_EH hN _ _ c).2 ⟨hc, q0, q1⟩] at he; cases he
  have b36 : ∀ d, mb (grC K R C lg m sw c) d = true → d < 36 := by
    intro d hd
    unfold grC rcB rch at hd
    rw [mb_ms _ _ _ (by omega), Bool.and_eq_true, decide_eq_true_eq] at hd
    omega
  refine ⟨ow, b36, ?_, ?_, ?_⟩
  · rw [mcnt_cf]
    exact cf_stop (fun d hd => bool_f (fun z => by have := b36 d z; omega)) (by decide)
  · refine mne_of (j := c) ?_
    have hw : mb (if mb (sN lg m sw 0) c = true then sN lg m sw 0 else sN lg m sw 1) c = true := by
      rcases ow with z | ⟨z1, z2⟩
      · rw [if_pos z]; exact z
      · rw [z1, if_neg (show ¬ false = true by decide)]; exact z2
    unfold grC rcB rch
    rw [mb_ms _ _ _ (by omega), Bool.and_eq_true, decide_eq_true_eq, pdec_t]
    exact ⟨hc, fun P h1 _ => h1 c hc (by rw [mb_bit _ _ (by omega)]; exact decide_eq_true rfl) hw⟩
  · have q : (mb (stN lg (kf sw m) 0 m) c || mb (stN lg (kf sw m) 1 m) c) = true := by
      rcases ow with z | ⟨z1, z2⟩
      · rw [show mb (stN lg (kf sw m) 0 m) c = true from z]; rfl
      · rw [show mb (stN lg (kf sw m) 1 m) c = true from z2, Bool.or_true]
    obtain ⟨i, a, b, d⟩ := (mb_st01 w.n36 c).1 q
    refine ⟨i, b, a, d, fun j h1 h2 h3 => ?_, fun j h1 h2 h3 => ?_⟩
    · exact w.2.2.1 j i h1 h2 a (by rw [h3, d])
    · exact w.2.2.1 i j b h1 h2 (by rw [h3, d])
section
variable {K R C : Nat} {lg : Nat → Nat} {m : Nat} {sw : Bool} (e : Nat) (I : Nat → Nat → Int32) (J : Nat → Nat → Int64) (A : Nat → Nat → Int32) (B : Nat → Nat → Int64)
theorem cC_cell_1 (h : CB K R C I J A B) {x y : Int32} (hx : cellP (bN K R C) x = false) : f_X10_cell [.ref 0, .int x, .int y] (79, e, mm_R0, I, J, A, B) = some (.inr 1, (79, e + 1, mm_R0, I, J, A, B)) := by
  rw [en_X10_cell, sg_X10_cell_0, sp_hasCell e I J A B h, mm_aft_v, hx, sg_X10_cell_8, if_pos (show bi false = 0 from rfl)]
theorem cC_cell_2 (h : CB K R C I J A B) {x y : Int32} (hx : cellP (bN K R C) x = true) (hy : rgP y 0 6 = false) : f_X10_cell [.ref 0, .int x, .int y] (79, e, mm_R0, I, J, A, B) = some (.inr 2, (79, e + 1, mm_R0, I, J, A, B)) := by
  rw [en_X10_cell, sg_X10_cell_0, sp_hasCell e I J A B h, mm_aft_v, hx, sg_X10_cell_8, if_neg (show ¬ bi true = 0 by decide), sg_X10_cell_31]
  by_cases q : y < 0
  · rw [if_pos q]
  · rw [if_neg q, if_pos ((rg_no hy).resolve_left q)]
theorem cC_cell (h : CG K R C lg m sw I J A B) (w : WG K R C lg m sw) {c v : Nat} (hc : c < bN K R C) (hv : v ≤ 6) : f_X10_cell [.ref 0, .int (i32 c), .int (i32 v)] (79, e, mm_R0, I, J, A, B) = some (.inl (some (.int (clV K R C lg m sw c v))), (79, e, mm_R0, I, J, A, B)) := by
  have hN := bN_le w.1
  have rc := h.1.rc c hc
  have row := sp_row 72 mm_R0 e I J A B (c := c) (by omega)
  have col := sp_column 72 mm_R0 e I J A B (c := c) (by omega)
  have own := sp_owner 70 mm_R0 e I J A B (c := c) (by omega)
  rw [mm_RB_0] at row col
  rw [mm_RP_0, h.2.2.1, h.2.2.2.1] at own
  have veq : ∀ a : Nat, a < 100 → (i32 v = i32 a ↔ v = a) := fun a ha => i32_eq (by omega) (by omega)
  unfold clV
  rw [en_X10_cell, sg_X10_cell_0, sp_hasCell e I J A B h.1, mm_aft_v, cellP_i hN (by omega), decide_eq_true hc, sg_X10_cell_8, if_neg (show ¬ bi true = 0 by decide), if_neg (show ¬ i32 v < (0 : Int32) by rw [show (0 : Int32) = i32 0 from rfl, i32_lt (by omega) (by decide)]; omega), if_neg (show ¬ (6 : Int32) < i32 v by rw [show (6 : Int32) = i32 6 from rfl, i32_lt (by decide) (by omega)]; omega)]
  by_cases v4 : v = 4
  · rw [if_pos (show i32 v = (4 : Int32) from (veq 4 (by decide)).2 v4), if_pos v4]
    have row' : f_X1_row [.ref 1, .int (i32 c)] (79, e, mm_R0, I, J, A, B) = _ := row
    rw [row', mm_aft_v, sg_X10_cell_54, rc.1]
  · rw [if_neg (show ¬ i32 v = (4 : Int32) from fun z => v4 ((veq 4 (by decide)).1 z)), if_neg v4]
    by_cases v5 : v = 5
    · rw [if_pos (show i32 v = (5 : Int32) from (veq 5 (by decide)).2 v5), if_pos v5]
      have col' : f_X1_column [.ref 1, .int (i32 c)] (79, e, mm_R0, I, J, A, B) = _ := col
      rw [col', mm_aft_v, sg_X10_cell_68, rc.2]
    · rw [if_neg (show ¬ i32 v = (5 : Int32) from fun z => v5 ((veq 5 (by decide)).1 z)), if_neg v5]
      have own' : f_X6_owner [.ref 7, .int (i32 c)] (79, e, mm_R0, I, J, A, B) = _ := own
      rw [own', mm_aft_v, sg_X10_cell_77, sg_X10_cell_87]
      cases he : mb (emp (bN K R C) (sN lg m sw 0) (sN lg m sw 1)) c with
      | true =>
        obtain ⟨_, z1, z2⟩ := (emp_EH hN _ _ c).1 he
        rw [z1, z2, if_pos rfl]
        rfl
      | false =>
        obtain ⟨g1, g2, g3, g4, i, g5, g6, g7, g8, g9⟩ := gr_facts w hc he
        rw [if_neg (show ¬ false = true by decide)]
        have fin : ∀ p, p < 2 → (bif mb (sN lg m sw 0) c then i32 0 else bif mb (sN lg m sw 1) c then i32 1 else iN) = i32 p → (if mb (sN lg m sw 0) c = true then i32 0 else i32 1) = i32 p → (if mb (sN lg m sw 0) c = true then sN lg m sw 0 else sN lg m sw 1) = sN lg m sw p → mm_run (mm_pr tb_X10_cell) (77, [some (.ref 0), some (.int (i32 c)), some (.int (i32 v)), none, none, none], [.int (i32 p)], (79, e, mm_R0, I, J, A, B)) = some (.inl (some (.int (if v = 0 then (if mb (sN lg m sw 0) c = true then i32 0 else i32 1) else if v = 6 then i32 (noV lg (kf sw m) c m) else if v = 1 then i32 (gn (grC K R C lg m sw c)) else if v = 2 then soF K R C (grC K R C lg m sw c) (bSd K) else i32 (mlo (grC K R C lg m sw c))))), (79, e, mm_R0, I, J, A, B)) := by
          intro p hp e1 e2 e3
          have gr : grC K R C lg m sw c = rcB K R C (mbit c) (sN lg m sw p) := by unfold grC; rw [e3]
          rw [sg_X10_cell_77, if_neg (show ¬ i32 p = (-1 : Int32) from fun z => (iN_ne (a := p) (by omega)).1 z), sg_X10_cell_87, e2]
          by_cases v0 : v = 0
          · rw [if_pos (show i32 v = 0 from (veq 0 (by decide)).2 v0), if_pos v0]
          · rw [if_neg (show ¬ i32 v = 0 from fun z => v0 ((veq 0 (by decide)).1 z)), if_neg v0]
            by_cases v6 : v = 6
            · have num := sp_numberOf 70 mm_R0 e I J A B h.2.1 (c := c) (i := i) (by omega) w.n36 g5 g6 g7 g8
              rw [mm_RP_0] at num
              have num' : f_X6_numberOf [.ref 7, .int (i32 c)] (79, e, mm_R0, I, J, A, B) = _ := num
              rw [if_pos (show i32 v = (6 : Int32) from (veq 6 (by decide)).2 v6), if_pos v6, num', mm_aft_v, sg_X10_cell_103, noV_of m g5 g6 g7 g9]
            · rw [if_neg (show ¬ i32 v = (6 : Int32) from fun z => v6 ((veq 6 (by decide)).1 z)), if_neg v6, sp0_stones e I J A B h hp, mm_aft_v, sg_X10_cell_119]
              show mm_aft _ 122 _ _ (f_X1_reach [.ref 1, .long (mbit c), .long (sN lg m sw p)] _) = _
              rw [sp0_reach e I J B A h.1, mm_aft_v, sg_X10_cell_122, ← gr]
              by_cases v1 : v = 1
              · rw [if_pos (show i32 v = (1 : Int32) from (veq 1 (by decide)).2 v1), if_pos v1, sp_bitCount, mm_aft_v, sg_X10_cell_134, sg_X10_cell_159, g3]
              · rw [if_neg (show ¬ i32 v = (1 : Int32) from fun z => v1 ((veq 1 (by decide)).1 z)), if_neg v1]
                by_cases v2 : v = 2
                · have so := sp_sidesOf 72 mm_R0 e I J A B h.1 (grC K R C lg m sw c)
                  rw [mm_RB_0] at so
                  have so' : f_X1_sidesOf [.ref 1, .long (grC K R C lg m sw c)] (79, e, mm_R0, I, J, A, B) = _ := so
                  rw [if_pos (show i32 v = (2 : Int32) from (veq 2 (by decide)).2 v2), if_pos v2, so', mm_aft_v, sg_X10_cell_151, sg_X10_cell_159]
                · rw [if_neg (show ¬ i32 v = (2 : Int32) from fun z => v2 ((veq 2 (by decide)).1 z)), if_neg v2, sp_lowest, mm_aft_v, sg_X10_cell_159]
        have s77 : ∀ x : Int32, mm_run (mm_pr tb_X10_cell) (77, [some (.ref 0), some (.int (i32 c)), some (.int (i32 v)), none, none, none], [.int x], (79, e, mm_R0, I, J, A, B)) = _ := fun x => sg_X10_cell_77 e I J A B (i32 c) (i32 v) x
        rcases g1 with z | ⟨z1, z2⟩
        · have f0 := fin 0 (by decide) (by rw [z]; rfl) (by rw [if_pos z]) (by rw [if_pos z])
          rw [sg_X10_cell_77, sg_X10_cell_87] at f0
          rw [z] at f0 ⊢
          exact f0
        · have f1 := fin 1 (by decide) (by rw [z1, z2]; rfl) (by rw [z1]; rfl) (by rw [z1]; rfl)
          rw [sg_X10_cell_77, sg_X10_cell_87] at f1
          rw [z1] at f1 ⊢
          rw [z2]
          exact f1
end
