/-! patterns: the tape's calls, both sides -/
def nhd (had c : Nat) : Nat := if had < 6 then (if tol c = true then had + 1 else 99) else if c = 124 then 0 else if had = 6 ∧ c = 33 then 7 else 99
def scn (t : Nat → Nat) : Nat → Nat → Nat → Int32
  | 0, i, had => if had < 6 then i32 i else iN
  | d + 1, i, had => if nhd had (t i) = 99 then i32 i else scn t d (i + 1) (nhd had (t i))
abbrev YC (t : Nat) (tp : Nat → Nat) (I : Nat → Nat → Int32) (A : Nat → Nat → Int32) : Prop := I 24 6 = i32 t ∧ t ≤ 30 ∧ ∀ j, j < t → A 25 j = i32 (tp j)
abbrev YM (t : Nat) (tp : Nat → Nat) (I : Nat → Nat → Int32) (A : Nat → Nat → Int32) : Prop := I 39 27 = i32 t ∧ t ≤ 30 ∧ ∀ j, j < t → A 55 j = i32 (tp j)
abbrev YB (t : Nat) (tp : Nat → Nat) : Prop := ∀ j, j < t → sgn (tp j) = true
abbrev FY (I I' : Nat → Nat → Int32) (A A' : Nat → Nat → Int32) : Prop := (∀ i, i ≠ 24 → I' i = I i) ∧ (∀ p, p ≠ 6 → p ≠ 7 → I' 24 p = I 24 p) ∧ (∀ i, i < 25 ∨ 29 < i → A' i = A i)
abbrev FZ (I I' : Nat → Nat → Int32) (A A' : Nat → Nat → Int32) : Prop := (∀ i, i ≠ 39 → I' i = I i) ∧ (∀ p, p ≠ 27 → p ≠ 28 → p ≠ 39 → I' 39 p = I 39 p) ∧ (∀ i, i < 55 ∨ 57 < i → A' i = A i)
def typP (x : Int64) (n : Int32) : Bool := rgP n 1 8 && okS x n.toInt.toNat
theorem sgn_lt {c : Nat} (h : sgn c = true) : c < 256 := by
  unfold sgn tol at h
  rw [Bool.or_eq_true, Bool.or_eq_true, decide_eq_true_eq, decide_eq_true_eq, decide_eq_true_eq] at h
  omega
theorem nhd_le {had c : Nat} (h : had ≤ 7) (hn : nhd had c ≠ 99) : nhd had c ≤ 7 := by
  unfold nhd at hn ⊢
  by_cases q : had < 6
  · rw [if_pos q] at hn ⊢
    by_cases y : tol c = true
    · rw [if_pos y]; omega
    · rw [if_neg y] at hn; exact absurd rfl hn
  · rw [if_neg q] at hn ⊢
    by_cases y : c = 124
    · rw [if_pos y]; omega
    · rw [if_neg y] at hn ⊢
      by_cases z : had = 6 ∧ c = 33
      · rw [if_pos z]; omega
      · rw [if_neg z] at hn; exact absurd rfl hn
theorem okS_b {x : Int64} : ∀ n, okS x n = true → ∀ i, i < n → sgn (byB x i) = true := by
  intro n
  induction n with
  | zero => intro _ i hi; omega
  | succ n ih =>
    intro h i hi
    have h' : (okS x n && sgn (byB x n)) = true := h
    rw [Bool.and_eq_true] at h'
    by_cases q : i = n
    · rw [q]; exact h'.2
    · exact ih h'.1 i (by omega)
theorem YB.type {t : Nat} {tp : Nat → Nat} (h : YB t tp) {x : Int64} {n : Nat} (ho : okS x n = true) : YB (t + n) (tpV tp t x n) := by
  intro j hj
  unfold tpV
  by_cases q : t ≤ j ∧ j < t + n
  · rw [if_pos q]; exact okS_b n ho _ (by omega)
  · rw [if_neg q]; exact h j (by omega)
theorem typ_cases {x : Int64} {n : Int32} (h : typP x n = true) : ∃ c, 1 ≤ c ∧ c ≤ 8 ∧ n = i32 c ∧ okS x c = true := by
  unfold typP at h
  rw [Bool.and_eq_true] at h
  obtain ⟨c, c1, c2, c3⟩ := rg_cases (lo := 1) (hi := 8) (by decide) (by decide) h.1
  subst c3
  have := h.2
  rw [i32_ix (by omega)] at this
  exact ⟨c, c1, c2, rfl, this⟩
theorem typ_ok {x : Int64} {c : Nat} (h1 : 1 ≤ c) (h2 : c ≤ 8) : typP x (i32 c) = okS x c := by
  unfold typP
  rw [i32_ix (by omega)]
  have : rgP (i32 c) 1 8 = true := by
    show rgP (i32 c) (i32 1) (i32 8) = true
    rw [rg_ok (by decide) (by decide) (by omega), decide_eq_true h1, decide_eq_true h2]; rfl
  rw [this, Bool.true_and]
section
variable {t : Nat} {tp : Nat → Nat} (e : Nat) (I : Nat → Nat → Int32) (J : Nat → Nat → Int64) (A : Nat → Nat → Int32) (B : Nat → Nat → Int64)
theorem sp_firstFault (h : YC t tp I A) (hb : YB t tp) : f_X5_firstFault [.ref 24] (79, e, mm_R0, I, J, A, B) = some (.inl (some (.int (scn tp t 0 0))), (79, e, mm_R0, I, J, A, B)) := by
  obtain ⟨h1, h2, h3⟩ := h
  have L : ∀ (dd i had : Nat) (o3 : Option Value), i + dd = t → had ≤ 7 → mm_run (mm_pr tb_X5_firstFault) (4, [some (.ref 24), some (.int (i32 had)), some (.int (i32 i)), o3], [], (79, e, mm_R0, I, J, A, B)) = some (.inl (some (.int (scn tp dd i had))), (79, e, mm_R0, I, J, A, B)) := by
    intro dd
    induction dd with
    | zero =>
      intro i had o3 hi hh
      have : i = t := by omega
      subst this
      rw [sg_X5_firstFault_4, h1, if_neg (by rw [i32_lt (by omega) (by omega)]; omega), sg_X5_firstFault_84, h1]
      unfold scn
      by_cases q : had < 6
      · rw [if_pos (show i32 had < (6 : Int32) from (i32_lt (b := 6) (by omega) (by decide)).2 q), if_pos q, sg_X5_firstFault_98]
      · rw [if_neg (show ¬ i32 had < (6 : Int32) from fun z => q ((i32_lt (b := 6) (by omega) (by decide)).1 z)), if_neg q, sg_X5_firstFault_98]; rfl
    | succ dd ih =>
      intro i had o3 hi hh
      have hc := sgn_lt (hb i (by omega))
      have un : scn tp (dd + 1) i had = if nhd had (tp i) = 99 then i32 i else scn tp dd (i + 1) (nhd had (tp i)) := rfl
      have nx : ∀ (g : Nat) (o : Int32), g ≤ 7 → mm_run (mm_pr tb_X5_firstFault) (78, [some (.ref 24), some (.int (i32 g)), some (.int (i32 i)), some (.int o)], [], (79, e, mm_R0, I, J, A, B)) = some (.inl (some (.int (scn tp dd (i + 1) g))), (79, e, mm_R0, I, J, A, B)) := by
        intro g o hg
        rw [sg_X5_firstFault_78]
        simp only [i32_l]
        rw [i32_add]
        exact ih (i + 1) g _ (by omega) hg
      rw [un, sg_X5_firstFault_4, h1, if_pos (by rw [i32_lt (by omega) (by omega)]; omega), if_pos (show i32 i < (30 : Int32) from (i32_lt (b := 30) (by omega) (by decide)).2 (by omega)), if_pos ((i32_in (by omega)).2 (by omega)), i32_ix (by omega), h3 i (by omega)]
      have mt : men (tp i) = 0 ↔ tol (tp i) = false := (men_t ⟨tp i, hc⟩).1
      have ml : men (tp i) < 16 := (men_t ⟨tp i, hc⟩).2
      generalize tp i = c at hc mt ml ⊢
      unfold nhd
      by_cases q : had < 6
      · rw [if_pos (show i32 had < (6 : Int32) from (i32_lt (b := 6) (by omega) (by decide)).2 q), if_pos q, sg_X5_firstFault_42, if_pos (show i32 had < (6 : Int32) from (i32_lt (b := 6) (by omega) (by decide)).2 q), sp_meaning _ hc, mm_aft_v, sg_X5_firstFault_52]
        cases y : tol c with
        | false =>
          rw [if_pos (show i32 (men c) = 0 by rw [mt.2 y]; rfl), sg_X5_firstFault_76, if_neg (show ¬ false = true by decide), if_pos rfl]
        | true =>
          have ne : ¬ men c = 0 := fun z => by rw [mt.1 z] at y; cases y
          rw [if_neg (show ¬ i32 (men c) = 0 by rw [show (0 : Int32) = i32 0 from rfl, i32_eq (by omega) (by decide)]; exact ne), sg_X5_firstFault_70, if_pos rfl, if_neg (show ¬ had + 1 = 99 by omega)]
          simp only [i32_l]
          rw [i32_add]
          exact nx (had + 1) _ (by omega)
      · rw [if_neg (show ¬ i32 had < (6 : Int32) from fun z => q ((i32_lt (b := 6) (by omega) (by decide)).1 z)), if_neg q]
        by_cases y : c = 124
        · rw [if_pos (show i32 c = (124 : Int32) by rw [y]; rfl), if_pos y, if_neg (show ¬ (0 : Nat) = 99 by decide)]
          exact nx 0 _ (by omega)
        · rw [if_neg (show ¬ i32 c = (124 : Int32) from fun z => y ((i32_eq (b := 124) (by omega) (by decide)).1 z)), if_neg y, sg_X5_firstFault_42, if_neg (show ¬ i32 had < (6 : Int32) from fun z => q ((i32_lt (b := 6) (by omega) (by decide)).1 z))]
          by_cases x : had = 6
          · rw [if_pos (show i32 had = (6 : Int32) by rw [x]; rfl)]
            by_cases w : c = 33
            · rw [if_pos (show i32 c = (33 : Int32) by rw [w]; rfl), if_pos (show had = 6 ∧ c = 33 from ⟨x, w⟩), if_neg (show ¬ (7 : Nat) = 99 by decide), sg_X5_firstFault_70, x]
              simp only [i32_l]
              rw [i32_add]
              exact nx 7 _ (by omega)
            · rw [if_neg (show ¬ i32 c = (33 : Int32) from fun z => w ((i32_eq (b := 33) (by omega) (by decide)).1 z)), if_neg (show ¬ (had = 6 ∧ c = 33) from fun z => w z.2), if_pos rfl, sg_X5_firstFault_76]
          · rw [if_neg (show ¬ i32 had = (6 : Int32) from fun z => x ((i32_eq (b := 6) (by omega) (by decide)).1 z)), if_neg (show ¬ (had = 6 ∧ c = 33) from fun z => x z.1), if_pos rfl, sg_X5_firstFault_76]
  rw [en_X5_firstFault, sg_X5_firstFault_0]
  exact L t 0 0 none (by omega) (by omega)
theorem cC_fault (h : YC t tp I A) (hb : YB t tp) : f_X10_fault [.ref 0] (79, e, mm_R0, I, J, A, B) = some (.inl (some (.int (scn tp t 0 0))), (79, e, mm_R0, I, J, A, B)) := by
  rw [en_X10_fault, sg_X10_fault_0, sp_firstFault e I J A B h hb, mm_aft_v, sg_X10_fault_7]
theorem cC_wipe (h : YC t tp I A) : f_X10_wipe [.ref 0] (79, e, mm_R0, I, J, A, B) = some (.inl (some (.int (i32 t))), (79, e, mm_R0, mm_up I 24 6 (i32 0), J, A, B)) ∧ YC 0 tp (mm_up I 24 6 (i32 0)) A ∧ FY I (mm_up I 24 6 (i32 0)) A A := by
  refine ⟨?_, ⟨mm_up_eq _ _ _ _, by decide, fun j hj => absurd hj (Nat.not_lt_zero _)⟩, fun i hi => mm_up_row _ _ _ _ _ hi, fun p hp _ => mm_up_ne2 _ _ _ _ _ _ hp, fun _ _ => rfl⟩
  rw [en_X10_wipe, sg_X10_wipe_0, h.1]; rfl
theorem cC_type_1 {x : Int64} {n : Int32} (hx : typP x n = false) : f_X10_type [.ref 0, .long x, .int n] (79, e, mm_R0, I, J, A, B) = some (.inr 2, (79, e + 1, mm_R0, I, J, A, B)) := by
  rw [en_X10_type, sg_X10_type_0, sg_X10_type_23]
  by_cases q : n < 1
  · rw [if_pos q]
  · rw [if_neg q]
    by_cases y : (8 : Int32) < n
    · rw [if_pos y]
    · have rg : rgP n 1 8 = true := by unfold rgP; rw [decide_eq_false q, decide_eq_false y]; rfl
      obtain ⟨c, c1, c2, c3⟩ := rg_cases (lo := 1) (hi := 8) (by decide) (by decide) rg
      subst c3
      rw [typ_ok c1 c2] at hx
      rw [if_neg y, sp_canType e I J A B x c2, mm_aft_v, hx, sg_X10_type_20, if_pos (show bi false = 0 from rfl), sg_X10_type_23]
theorem type_start {x : Int64} {c : Nat} (c1 : 1 ≤ c) (c2 : c ≤ 8) (ho : okS x c = true) : f_X10_type [.ref 0, .long x, .int (i32 c)] (79, e, mm_R0, I, J, A, B) = if (30 : Int32) < ((I 24 6) + i32 c) then (some (.inr 3, (79, e + 1, mm_R0, I, J, A, B))) else (mm_aft (mm_pr tb_X10_type) 68 [some (.ref 0), some (.long x), none, some (.int (i32 c))] [] (f_X5_append [.ref 24, .long x, .int (i32 c)] (79, e, mm_R0, I, J, A, B))) := by
  rw [en_X10_type, sg_X10_type_0, if_neg (show ¬ i32 c < (1 : Int32) by rw [show (1 : Int32) = i32 1 from rfl, i32_lt (by omega) (by decide)]; omega), if_neg (show ¬ (8 : Int32) < i32 c by rw [show (8 : Int32) = i32 8 from rfl, i32_lt (by decide) (by omega)]; omega), sp_canType e I J A B x c2, mm_aft_v, ho, sg_X10_type_20, if_neg (show ¬ bi true = 0 by decide)]
theorem cC_type_2 (h : YC t tp I A) {x : Int64} {c : Nat} (c1 : 1 ≤ c) (c2 : c ≤ 8) (ho : okS x c = true) (hl : 30 < t + c) : f_X10_type [.ref 0, .long x, .int (i32 c)] (79, e, mm_R0, I, J, A, B) = some (.inr 3, (79, e + 1, mm_R0, I, J, A, B)) := by
  have := h.2.1
  rw [type_start e I J A B c1 c2 ho, h.1, i32_add, if_pos (show (30 : Int32) < i32 (t + c) from (i32_lt (a := 30) (by decide) (by omega)).2 hl)]
theorem cC_type (h : YC t tp I A) {x : Int64} {c : Nat} (c1 : 1 ≤ c) (c2 : c ≤ 8) (ho : okS x c = true) (hl : t + c ≤ 30) : ∃ I' A', f_X10_type [.ref 0, .long x, .int (i32 c)] (79, e, mm_R0, I, J, A, B) = some (.inl (some (.int (i32 (t + c)))), (79, e, mm_R0, I', J, A', B)) ∧ YC (t + c) (tpV tp t x c) I' A' ∧ (∀ i, i ≠ 24 → I' i = I i) ∧ (∀ p, p ≠ 6 → I' 24 p = I 24 p) ∧ (∀ i, i ≠ 25 → A' i = A i) := by
  obtain ⟨I', A', a1, a2, a3, a4, a5, a6⟩ := sp_append e I J A B x c2 hl h.1 h.2.2
  refine ⟨I', A', ?_, ⟨a2, hl, a3⟩, a4, a5, a6⟩
  rw [type_start e I J A B c1 c2 ho, h.1, i32_add, if_neg (show ¬ (30 : Int32) < i32 (t + c) from fun z => by have := (i32_lt (a := 30) (by decide) (by omega)).1 z; omega), a1, mm_aft_n, sg_X10_type_68, a2]
end
section
variable {t : Nat} {tp : Nat → Nat} (k : Nat) (r : Nat → Nat → Value) (e : Nat) (I : Nat → Nat → Int32) (J : Nat → Nat → Int64) (A : Nat → Nat → Int32) (B : Nat → Nat → Int64)
theorem YM.th {x : Int32} (h : YM t tp I A) : YM t tp (mm_up I 39 39 x) A := ⟨by rw [mm_up_ne2 _ _ _ _ _ _ (by decide)]; exact h.1, h.2⟩
end
