/-! clocks: both sides' calls -/
abbrev FT (I I' : Nat → Nat → Int32) (A A' : Nat → Nat → Int32) : Prop := (∀ i, i ≠ 30 → I' i = I i) ∧ (∀ i, i ≠ 31 → i ≠ 32 → i ≠ 33 → A' i = A i)
noncomputable def wnr (K R C : Nat) (lg : Nat → Nat) (m : Nat) (sw : Bool) (lo : Nat) : Int32 := if lo = 0 then jnd K R C (sN lg m sw 0) (sN lg m sw 1) else i32 (2 - lo)
def clkP (x1 x2 x3 : Int32) : Bool := rgP x1 0 3600 && rgP x2 0 9 && rgP x3 1 60 && !decide (x1 + x2 = 0)
def usM (ea : Nat) (se pe us : Nat → Nat) (p t : Nat) : Nat := us p + t - min t (se p)
def usW (ea : Nat) (se pe us : Nat → Nat) (p t : Nat) : Nat := min (pe p) ((us p + t - min t (se p)) / ea)
def usL (ea : Nat) (se pe us : Nat → Nat) (p t : Nat) : Nat := if pe p - min (pe p) ((us p + t - min t (se p)) / ea) = 0 ∧ 0 < us p + t - min t (se p) then p + 1 else 0
def seV (se : Nat → Nat) (p t : Nat) : Nat → Nat := upN se p (se p - min t (se p))
def peV (ea : Nat) (se pe us : Nat → Nat) (p t : Nat) : Nat → Nat := upN pe p (pe p - min (pe p) ((us p + t - min t (se p)) / ea))
def usV (ea : Nat) (se pe us : Nat → Nat) (p t : Nat) : Nat → Nat := upN us p (us p + t - min t (se p) - min (pe p) ((us p + t - min t (se p)) / ea) * ea)
theorem wnr_lo {K R C : Nat} {lg : Nat → Nat} {m : Nat} {sw : Bool} {lo : Nat} (hl : lo ≤ 2) (h : wnr K R C lg m sw lo = iN) : lo = 0 ∧ jnd K R C (sN lg m sw 0) (sN lg m sw 1) = iN := by
  unfold wnr at h
  by_cases q : lo = 0
  · rw [if_pos q] at h; exact ⟨q, h⟩
  · rw [if_neg q] at h; exact ((iN_ne (a := 2 - lo) (by omega)).1 h).elim
theorem clk_cases {x1 x2 x3 : Int32} (h : clkP x1 x2 x3 = true) : ∃ s p c, s ≤ 3600 ∧ p ≤ 9 ∧ 1 ≤ c ∧ c ≤ 60 ∧ 0 < s + p ∧ x1 = i32 s ∧ x2 = i32 p ∧ x3 = i32 c := by
  unfold clkP at h
  rw [Bool.and_eq_true, Bool.and_eq_true, Bool.and_eq_true, Bool.not_eq_true', decide_eq_false_iff_not] at h
  obtain ⟨⟨⟨h1, h2⟩, h3⟩, h4⟩ := h
  obtain ⟨s, s1, s2, s3⟩ := rg_cases (lo := 0) (hi := 3600) (by decide) (by decide) h1
  obtain ⟨p, p1, p2, p3⟩ := rg_cases (lo := 0) (hi := 9) (by decide) (by decide) h2
  obtain ⟨c, c1, c2, c3⟩ := rg_cases (lo := 1) (hi := 60) (by decide) (by decide) h3
  refine ⟨s, p, c, s2, p2, c1, c2, ?_, s3, p3, c3⟩
  rw [s3, p3, i32_add] at h4
  by_cases q : 0 < s + p
  · exact q
  · exact absurd (show i32 (s + p) = 0 by rw [show s + p = 0 by omega]; rfl) h4
theorem clk_ok {s p c : Nat} (h1 : s ≤ 3600) (h2 : p ≤ 9) (h3 : 1 ≤ c) (h4 : c ≤ 60) (h5 : 0 < s + p) : clkP (i32 s) (i32 p) (i32 c) = true := by
  have a1 : rgP (i32 s) (i32 0) (i32 3600) = true := by rw [rg_ok (by decide) (by decide) (by omega), decide_eq_true (Nat.zero_le _), decide_eq_true h1]; rfl
  have a2 : rgP (i32 p) (i32 0) (i32 9) = true := by rw [rg_ok (by decide) (by decide) (by omega), decide_eq_true (Nat.zero_le _), decide_eq_true h2]; rfl
  have a3 : rgP (i32 c) (i32 1) (i32 60) = true := by rw [rg_ok (by decide) (by decide) (by omega), decide_eq_true h3, decide_eq_true h4]; rfl
  have a4 : ¬ i32 (s + p) = 0 := by rw [show (0 : Int32) = i32 0 from rfl, i32_eq (by omega) (by decide)]; omega
  unfold clkP
  show (rgP (i32 s) (i32 0) (i32 3600) && rgP (i32 p) (i32 0) (i32 9) && rgP (i32 c) (i32 1) (i32 60) && !decide (i32 s + i32 p = 0)) = true
  rw [a1, a2, a3, i32_add, decide_eq_false a4]; rfl
theorem TB.spend {ea : Nat} {se pe us : Nat → Nat} (hb : TB ea true se pe us 0) {p t : Nat} (hp : p < 2) (ht : 1 ≤ t) (ht2 : t ≤ 600) : TB ea true (seV se p t) (peV ea se pe us p t) (usV ea se pe us p t) (usL ea se pe us p t) := by
  obtain ⟨b1, b2, b3⟩ := hb
  have be := b2 rfl
  refine ⟨by unfold usL; split <;> omega, fun _ => be, fun q hq => ?_⟩
  have b := b3 q hq
  unfold seV peV usV upN usL
  by_cases y : q = p
  · subst y
    rw [if_pos rfl, if_pos rfl, if_pos rfl]
    have l1 : min t (se q) ≤ t := Nat.min_le_left _ _
    have l2 : min t (se q) ≤ se q := Nat.min_le_right _ _
    have bu := b.2.2.2.1 rfl
    have bq1 := b.1
    have bq2 := b.2.1
    have l0 : min t (se q) = t ∨ min t (se q) = se q := by omega
    generalize ho : min t (se q) = o at l0 l1 l2 ⊢
    generalize hm : us q + t - o = mo
    have hmo : mo ≤ 660 := by omega
    have d1 := Nat.div_add_mod mo ea
    have d2 := Nat.mod_lt mo (show 0 < ea by omega)
    have l3 : mo / ea * ea ≤ mo := Nat.div_mul_le_self _ _
    have l4 : min (pe q) (mo / ea) = pe q ∨ min (pe q) (mo / ea) = mo / ea := by omega
    have l5 : min (pe q) (mo / ea) ≤ pe q := Nat.min_le_left _ _
    refine ⟨Nat.le_trans (Nat.sub_le _ _) bq1, Nat.le_trans (Nat.sub_le _ _) bq2, Nat.le_trans (Nat.sub_le _ _) hmo, fun z => ?_, fun z => ?_⟩
    · rcases l4 with w | w
      · by_cases v : 0 < mo
        · rw [if_pos ⟨by rw [w, Nat.sub_self], v⟩] at z; omega
        · exact Nat.le_trans (Nat.sub_le _ _) (by omega)
      · rw [w]
        have : mo / ea * ea = ea * (mo / ea) := Nat.mul_comm _ _
        omega
    · have : 0 < mo := Nat.lt_of_lt_of_le z (Nat.sub_le _ _)
      rcases l0 with w | w
      · have := b.2.2.2.2 (by omega); omega
      · omega
  · rw [if_neg y, if_neg y, if_neg y]
    exact ⟨b.1, b.2.1, b.2.2.1, fun _ => b.2.2.2.1 rfl, b.2.2.2.2⟩
section
variable {K R C : Nat} {lg : Nat → Nat} {m : Nat} {sw : Bool} {ea : Nat} {tk : Bool} {se pe us : Nat → Nat} {lo : Nat} (e : Nat) (I : Nat → Nat → Int32) (J : Nat → Nat → Int64) (A : Nat → Nat → Int32) (B : Nat → Nat → Int64)
theorem CG.low {I' : Nat → Nat → Int32} {J' : Nat → Nat → Int64} {A' : Nat → Nat → Int32} {B' : Nat → Nat → Int64} (h : CG K R C lg m sw I J A B) (hI : ∀ i, i < 23 → I' i = I i) (hJ : ∀ i, i < 23 → J' i = J i) (hA : ∀ i, i < 23 → A' i = A i) (hB : ∀ i, i < 23 → B' i = B i) : CG K R C lg m sw I' J' A' B' := by
  obtain ⟨h1, h2, h3, h4, h5, h6, h7⟩ := h
  refine ⟨h1.fr (hI 1 (by decide)) (hJ 1 (by decide)) (hA 2 (by decide)) (hA 3 (by decide)) (hA 4 (by decide)) (hB 5 (by decide)) (hB 6 (by decide)), ?_, by rw [hJ 7 (by decide)]; exact h3, by rw [hJ 7 (by decide)]; exact h4, by rw [hI 7 (by decide)]; exact h5, BQ.fr I J A B h6 (hI 1 (by decide)) (hI 9 (by decide)) (hI 10 (by decide)) (hJ 1 (by decide)) (hJ 9 (by decide)) (hA 2 (by decide)) (hA 3 (by decide)) (hA 4 (by decide)) (hA 11 (by decide)) (hA 12 (by decide)) (hA 13 (by decide)) (hA 14 (by decide)) (hB 5 (by decide)) (hB 6 (by decide)), by rw [hA 18 (by decide)]; exact h7⟩
  rw [show PL lg m sw I' A' = (I' 7 2 = i32 m ∧ I' 7 3 = bi sw ∧ m ≤ 37 ∧ (∀ i, i < m → A' 8 i = i32 (lg i))) from rfl, hI 7 (by decide), hA 8 (by decide)]
  exact h2
theorem CG.ft {I' A' : Nat → Nat → Int32} (h : CG K R C lg m sw I J A B) (f : FT I I' A A') : CG K R C lg m sw I' J A' B := h.low I J A B (fun i hi => f.1 i (by omega)) (fun _ _ => rfl) (fun i hi => f.2 i (by omega) (by omega) (by omega)) (fun _ _ => rfl)
theorem sp_winner (h : CG K R C lg m sw I J A B) (t : TC ea tk se pe us lo I A) (hl : lo ≤ 2) : f_X10_winner [.ref 0] (79, e, mm_R0, I, J, A, B) = some (.inl (some (.int (wnr K R C lg m sw lo))), (79, e, mm_R0, I, J, A, B)) := by
  rw [en_X10_winner, sg_X10_winner_0, t.2.2.1]
  unfold wnr
  by_cases q : lo = 0
  · rw [if_pos q, if_pos q, if_pos (show iN = (-1 : Int32) from rfl), sg_X10_winner_30, h.2.2.2.2.1]
  · rw [if_neg q, if_neg q, if_neg (show ¬ i32 (lo - 1) = (-1 : Int32) from fun z => (iN_ne (a := lo - 1) (by omega)).1 z), sg_X10_winner_30, show (1 : Int32) = i32 1 from rfl, i32_sub (by omega), show 1 - (lo - 1) = 2 - lo by omega]
theorem cC_clocks_1 {x1 x2 x3 : Int32} (hx : clkP x1 x2 x3 = false) : f_X10_clocks [.ref 0, .int x1, .int x2, .int x3] (79, e, mm_R0, I, J, A, B) = some (.inr 2, (79, e + 1, mm_R0, I, J, A, B)) := by
  rw [en_X10_clocks, sg_X10_clocks_0, sg_X10_clocks_38]
  by_cases q1 : x1 < 0
  · rw [if_pos q1]
  · rw [if_neg q1]
    by_cases q2 : (3600 : Int32) < x1
    · rw [if_pos q2]
    · rw [if_neg q2]
      by_cases q3 : x2 < 0
      · rw [if_pos q3]
      · rw [if_neg q3]
        by_cases q4 : (9 : Int32) < x2
        · rw [if_pos q4]
        · rw [if_neg q4]
          by_cases q5 : x3 < 1
          · rw [if_pos q5]
          · rw [if_neg q5]
            by_cases q6 : (60 : Int32) < x3
            · rw [if_pos q6]
            · rw [if_neg q6]
              by_cases q7 : x1 + x2 = 0
              · rw [if_pos q7]
              · unfold clkP rgP at hx
                rw [decide_eq_false q1, decide_eq_false q2, decide_eq_false q3, decide_eq_false q4, decide_eq_false q5, decide_eq_false q6, decide_eq_false q7] at hx
                cases hx
theorem clocks_start {s p c : Nat} (h1 : s ≤ 3600) (h2 : p ≤ 9) (h3 : 1 ≤ c) (h4 : c ≤ 60) (h5 : 0 < s + p) : f_X10_clocks [.ref 0, .int (i32 s), .int (i32 p), .int (i32 c)] (79, e, mm_R0, I, J, A, B) = if (I 30 4) = 0 then (if 0 < (I 7 2) then (mm_run (mm_pr tb_X10_clocks) (77, [some (.ref 0), some (.int (i32 s)), some (.int (i32 p)), some (.int (i32 c))], [], (79, e, mm_R0, I, J, A, B))) else (mm_aft (mm_pr tb_X10_clocks) 73 [some (.ref 0), some (.int (i32 s)), some (.int (i32 p)), some (.int (i32 c))] [] (f_X10_winner [.ref 0] (79, e, mm_R0, I, J, A, B)))) else (mm_run (mm_pr tb_X10_clocks) (77, [some (.ref 0), some (.int (i32 s)), some (.int (i32 p)), some (.int (i32 c))], [], (79, e, mm_R0, I, J, A, B))) := by
  rw [en_X10_clocks, sg_X10_clocks_0, if_neg (show ¬ i32 s < (0 : Int32) by rw [show (0 : Int32) = i32 0 from rfl, i32_lt (by omega) (by decide)]; omega), if_neg (show ¬ (3600 : Int32) < i32 s by rw [show (3600 : Int32) = i32 3600 from rfl, i32_lt (by decide) (by omega)]; omega), if_neg (show ¬ i32 p < (0 : Int32) by rw [show (0 : Int32) = i32 0 from rfl, i32_lt (by omega) (by decide)]; omega), if_neg (show ¬ (9 : Int32) < i32 p by rw [show (9 : Int32) = i32 9 from rfl, i32_lt (by decide) (by omega)]; omega), if_neg (show ¬ i32 c < (1 : Int32) by rw [show (1 : Int32) = i32 1 from rfl, i32_lt (by omega) (by decide)]; omega), if_neg (show ¬ (60 : Int32) < i32 c by rw [show (60 : Int32) = i32 60 from rfl, i32_lt (by decide) (by omega)]; omega), if_neg (show ¬ i32 s + i32 p = 0 by rw [i32_add, show (0 : Int32) = i32 0 from rfl, i32_eq (by omega) (by decide)]; omega)]
theorem cC_clocks_2 (h : CG K R C lg m sw I J A B) (t : TC ea tk se pe us lo I A) (hl : lo ≤ 2) {s p c : Nat} (h1 : s ≤ 3600) (h2 : p ≤ 9) (h3 : 1 ≤ c) (h4 : c ≤ 60) (h5 : 0 < s + p) (late : tk = true ∨ 0 < m ∨ ¬ wnr K R C lg m sw lo = iN) : f_X10_clocks [.ref 0, .int (i32 s), .int (i32 p), .int (i32 c)] (79, e, mm_R0, I, J, A, B) = some (.inr 3, (79, e + 1, mm_R0, I, J, A, B)) := by
  have hm := h.2.1.2.2.1
  rw [clocks_start e I J A B h1 h2 h3 h4 h5, t.2.1, sg_X10_clocks_77]
  cases tk with
  | true => rw [if_neg (show ¬ bi true = 0 by decide)]
  | false =>
    rw [if_pos (show bi false = 0 from rfl), h.2.1.1]
    by_cases q : 0 < m
    · rw [if_pos (show (0 : Int32) < i32 m from (i32_lt (a := 0) (by decide) (by omega)).2 q)]
    · rw [if_neg (show ¬ (0 : Int32) < i32 m from fun z => q ((i32_lt (a := 0) (by decide) (by omega)).1 z)), sp_winner e I J A B h t hl, mm_aft_v, sg_X10_clocks_73]
      rcases late with z | z | z
      · cases z
      · exact absurd z q
      · rw [if_neg (show ¬ wnr K R C lg m sw lo = (-1 : Int32) from z), sg_X10_clocks_77]
theorem cC_clocks (h : CG K R C lg m sw I J A B) (t : TC ea false se pe us lo I A) (hl : lo ≤ 2) {s p c : Nat} (h1 : s ≤ 3600) (h2 : p ≤ 9) (h3 : 1 ≤ c) (h4 : c ≤ 60) (h5 : 0 < s + p) (m0 : m = 0) (hw : wnr K R C lg m sw lo = iN) : ∃ I' A', f_X10_clocks [.ref 0, .int (i32 s), .int (i32 p), .int (i32 c)] (79, e, mm_R0, I, J, A, B) = some (.inl none, (79, e, mm_R0, I', J, A', B)) ∧ TC c true (fun _ => s) (fun _ => p) (fun _ => 0) 0 I' A' ∧ FT I I' A A' := by
  have l0 := (wnr_lo hl hw).1
  refine ⟨mm_up (mm_up I 30 3 (i32 c)) 30 4 (i32 1), mm_put (mm_put (mm_put A 31 (fun j => if j < 2 then i32 s else A 31 j)) 32 (fun j => if j < 2 then i32 p else A 32 j)) 33 (fun j => if j < 2 then i32 0 else A 33 j), ?_, ?_, ?_⟩
  · rw [clocks_start e I J A B h1 h2 h3 h4 h5, t.2.1, if_pos (show bi false = 0 from rfl), h.2.1.1, if_neg (show ¬ (0 : Int32) < i32 m by rw [m0]; decide), sp_winner e I J A B h t hl, mm_aft_v, sg_X10_clocks_73, if_pos (show wnr K R C lg m sw lo = (-1 : Int32) from hw), sp_start, mm_aft_n, sg_X10_clocks_98]
  · refine ⟨by rw [mm_up_ne2 _ _ _ _ _ _ (by decide), mm_up_eq], by rw [mm_up_eq]; rfl, ?_, fun p' hp' => ?_⟩
    · rw [mm_up_ne2 _ _ _ _ _ _ (by decide), mm_up_ne2 _ _ _ _ _ _ (by decide), t.2.2.1, l0]
    · rw [mm_put_ne _ _ _ _ _ (by decide), mm_put_ne _ _ _ _ _ (by decide), mm_put_same, mm_put_ne _ _ _ _ _ (by decide), mm_put_same, mm_put_same, if_pos hp', if_pos hp', if_pos hp']
      exact ⟨rfl, rfl, rfl⟩
  · refine ⟨fun i hi => by rw [mm_up_row _ _ _ _ _ hi, mm_up_row _ _ _ _ _ hi], fun i a b c => ?_⟩
    funext j
    rw [mm_put_ne _ _ _ _ _ c, mm_put_ne _ _ _ _ _ b, mm_put_ne _ _ _ _ _ a]
theorem cC_think_1 {x : Int32} (hx : rgP x 1 600 = false) : f_X10_think [.ref 0, .int x] (79, e, mm_R0, I, J, A, B) = some (.inr 2, (79, e + 1, mm_R0, I, J, A, B)) := by
  rw [en_X10_think, sg_X10_think_0, sg_X10_think_12]
  by_cases q : x < 1
  · rw [if_pos q]
  · rw [if_neg q, if_pos ((rg_no hx).resolve_left q)]
theorem think_start {t : Nat} (h1 : 1 ≤ t) (h2 : t ≤ 600) : f_X10_think [.ref 0, .int (i32 t)] (79, e, mm_R0, I, J, A, B) = if (I 30 4) = 0 then (mm_run (mm_pr tb_X10_think) (41, [some (.ref 0), some (.int (i32 t))], [], (79, e, mm_R0, I, J, A, B))) else (mm_aft (mm_pr tb_X10_think) 37 [some (.ref 0), some (.int (i32 t))] [] (f_X10_winner [.ref 0] (79, e, mm_R0, I, J, A, B))) := by
  rw [en_X10_think, sg_X10_think_0, if_neg (show ¬ i32 t < (1 : Int32) by rw [show (1 : Int32) = i32 1 from rfl, i32_lt (by omega) (by decide)]; omega), if_neg (show ¬ (600 : Int32) < i32 t by rw [show (600 : Int32) = i32 600 from rfl, i32_lt (by decide) (by omega)]; omega)]
theorem cC_think_2 (h : CG K R C lg m sw I J A B) (c : TC ea tk se pe us lo I A) (hl : lo ≤ 2) {t : Nat} (h1 : 1 ≤ t) (h2 : t ≤ 600) (no : tk = false ∨ ¬ wnr K R C lg m sw lo = iN) : f_X10_think [.ref 0, .int (i32 t)] (79, e, mm_R0, I, J, A, B) = some (.inr 3, (79, e + 1, mm_R0, I, J, A, B)) := by
  rw [think_start e I J A B h1 h2, c.2.1]
  cases tk with
  | false => rw [if_pos (show bi false = 0 from rfl), sg_X10_think_41]
  | true =>
    rw [if_neg (show ¬ bi true = 0 by decide), sp_winner e I J A B h c hl, mm_aft_v, sg_X10_think_37]
    rcases no with z | z
    · cases z
    · rw [if_neg (show ¬ wnr K R C lg m sw lo = (-1 : Int32) from z), sg_X10_think_41]
theorem cC_think (h : CG K R C lg m sw I J A B) (c : TC ea true se pe us lo I A) (hb : TB ea true se pe us lo) {t : Nat} (h1 : 1 ≤ t) (h2 : t ≤ 600) (hw : wnr K R C lg m sw lo = iN) : ∃ I' A', f_X10_think [.ref 0, .int (i32 t)] (79, e, mm_R0, I, J, A, B) = some (.inl (some (.int (wnr K R C lg m sw (usL ea se pe us (m % 2) t)))), (79, e, mm_R0, I', J, A', B)) ∧ TC ea true (seV se (m % 2) t) (peV ea se pe us (m % 2) t) (usV ea se pe us (m % 2) t) (usL ea se pe us (m % 2) t) I' A' ∧ FT I I' A A' := by
  have l0 := (wnr_lo hb.1 hw).1
  subst l0
  obtain ⟨I', A', a1, a2, a3, a4⟩ := sp_spend e I J A B c hb (p := m % 2) (by omega) h1 h2
  have ft : FT I I' A A' := ⟨a3, a4⟩
  have a2' : TC ea true (seV se (m % 2) t) (peV ea se pe us (m % 2) t) (usV ea se pe us (m % 2) t) (usL ea se pe us (m % 2) t) I' A' := a2
  refine ⟨I', A', ?_, a2', ft⟩
  have b' := hb.spend (p := m % 2) (by omega) h1 h2
  rw [think_start e I J A B h1 h2, c.2.1, if_neg (show ¬ bi true = 0 by decide), sp_winner e I J A B h c (by decide), mm_aft_v, sg_X10_think_37, if_pos (show wnr K R C lg m sw 0 = (-1 : Int32) from hw), sp0_mover e I J A B h, mm_aft_v, sg_X10_think_63, a1, mm_aft_n, sg_X10_think_67, sp_winner e I' J A' B (h.ft I J A B ft) a2' b'.1, mm_aft_v, sg_X10_think_71]
theorem cC_clock_1 {x y : Int32} (hx : plaP x = false) : f_X10_clock [.ref 0, .int x, .int y] (79, e, mm_R0, I, J, A, B) = some (.inr 1, (79, e + 1, mm_R0, I, J, A, B)) := by
  rw [en_X10_clock, sg_X10_clock_0, sp_isPlayerP, mm_aft_v, hx, sg_X10_clock_4, if_pos (show bi false = 0 from rfl)]
theorem cC_clock_2 {x y : Int32} (hx : plaP x = true) (hy : rgP y 0 2 = false) : f_X10_clock [.ref 0, .int x, .int y] (79, e, mm_R0, I, J, A, B) = some (.inr 2, (79, e + 1, mm_R0, I, J, A, B)) := by
  rw [en_X10_clock, sg_X10_clock_0, sp_isPlayerP, mm_aft_v, hx, sg_X10_clock_4, if_neg (show ¬ bi true = 0 by decide), sg_X10_clock_27]
  by_cases q : y < 0
  · rw [if_pos q]
  · rw [if_neg q, if_pos ((rg_no hy).resolve_left q)]
theorem cC_clock (t : TC ea tk se pe us lo I A) {p w : Nat} (hp : p < 2) (hw : w ≤ 2) : f_X10_clock [.ref 0, .int (i32 p), .int (i32 w)] (79, e, mm_R0, I, J, A, B) = some (.inl (some (.int (if w = 0 then i32 (se p) else if w = 1 then i32 (pe p) else i32 (us p)))), (79, e, mm_R0, I, J, A, B)) := by
  rw [en_X10_clock, sg_X10_clock_0, sp_isPlayerP, mm_aft_v, plaP_i hp, sg_X10_clock_4, if_neg (show ¬ bi true = 0 by decide), if_neg (show ¬ i32 w < (0 : Int32) by rw [show (0 : Int32) = i32 0 from rfl, i32_lt (by omega) (by decide)]; omega), if_neg (show ¬ (2 : Int32) < i32 w by rw [show (2 : Int32) = i32 2 from rfl, i32_lt (by decide) (by omega)]; omega), sp_shown e I J A B t hp (by omega), mm_aft_v, sg_X10_clock_46]
end
