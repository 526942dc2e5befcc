/-! ladder: calls -/
abbrev FL (I I' : Nat → Nat → Int32) (A A' : Nat → Nat → Int32) : Prop := (∀ i, i ≠ 0 → i ≠ 34 → I' i = I i) ∧ (∀ p, p ≠ 9 → I' 0 p = I 0 p) ∧ (∀ i, i ≠ 35 → i ≠ 36 → i ≠ 37 → i ≠ 38 → A' i = A i)
abbrev FK (I I' : Nat → Nat → Int32) (A A' : Nat → Nat → Int32) : Prop := (∀ i, i ≠ 39 → I' i = I i) ∧ (∀ p, p ≠ 14 → p ≠ 31 → p ≠ 39 → I' 39 p = I 39 p) ∧ (∀ i, i ≠ 58 → i ≠ 59 → i ≠ 60 → i ≠ 61 → A' i = A i)
def raN (ra : Nat → Int) (n : Nat) : Nat → Int := fun q => if q = n then 1000 else ra q
def shV (ra : Nat → Int) (pl wo ls : Nat → Nat) (p w : Nat) : Int32 := if w = 0 then si (ra p) else if w = 1 then i32 (pl p) else if w = 2 then i32 (wo p) else i32 (ls p)
section
variable {K R C : Nat} {lg : Nat → Nat} {m : Nat} {sw : Bool} {ea : Nat} {tk : Bool} {se pe us : Nat → Nat} {lo : Nat} {n : Nat} {ra : Nat → Int} {pl wo ls : Nat → Nat} {rc : Bool} (e : Nat) (I : Nat → Nat → Int32) (J : Nat → Nat → Int64) (A : Nat → Nat → Int32) (B : Nat → Nat → Int64)
theorem cC_person_no (h : LC n ra pl wo ls I A) (hn : ¬ n < 10) : f_X10_person [.ref 0] (79, e, mm_R0, I, J, A, B) = some (.inr 3, (79, e + 1, mm_R0, I, J, A, B)) := by
  have := h.2.1
  rw [en_X10_person, sg_X10_person_0, h.1, if_neg (show ¬ i32 n < (10 : Int32) from fun z => hn ((i32_lt (b := 10) (by omega) (by decide)).1 z))]
theorem cC_person (h : LC n ra pl wo ls I A) (hn : n < 10) : ∃ I' A', f_X10_person [.ref 0] (79, e, mm_R0, I, J, A, B) = some (.inl (some (.int (i32 n))), (79, e, mm_R0, I', J, A', B)) ∧ LC (n + 1) (raN ra n) (upN pl n n) wo ls I' A' ∧ FL I I' A A' ∧ I' 0 9 = I 0 9 := by
  have cin : (0 ≤ (i32 n).toInt ∧ (i32 n).toInt < 10) := (i32_in (by omega)).2 (by omega)
  have ix : (i32 n).toInt.toNat = n := i32_ix (by omega)
  refine ⟨mm_up I 34 4 (i32 (n + 1)), mm_up (mm_up A 35 n (1000 : Int32)) 36 n (i32 n), ?_, ⟨by rw [mm_up_eq], by omega, fun p hp => ?_, fun p hp => ?_⟩, ⟨fun i _ h2 => mm_up_row _ _ _ _ _ h2, fun p _ => mm_up_ne1 _ _ _ _ _ _ (by decide), fun i h1 h2 _ _ => by rw [mm_up_row _ _ _ _ _ h2, mm_up_row _ _ _ _ _ h1]⟩, mm_up_ne1 _ _ _ _ _ _ (by decide)⟩
  · rw [en_X10_person, sg_X10_person_0, h.1, if_pos (show i32 n < (10 : Int32) from (i32_lt (b := 10) (by omega) (by decide)).2 hn), en_X3_takeOn, sg_X3_takeOn_0, h.1, if_neg (show ¬ i32 n < (0 : Int32) by rw [show (0 : Int32) = i32 0 from rfl, i32_lt (by omega) (by decide)]; omega), if_pos (show i32 n < (10 : Int32) from (i32_lt (b := 10) (by omega) (by decide)).2 hn), if_pos cin, if_pos cin, ix, sg_X3_takeOn_41, mm_aft_v, sg_X10_person_30]
    simp only [i32_l]
    rw [i32_add]
  · unfold raN upN
    rw [mm_up_ne1 _ _ _ _ _ _ (by decide)]
    by_cases q : p = n
    · subst q; rw [mm_up_eq, mm_up_eq, if_pos rfl, if_pos rfl]; exact ⟨rfl, rfl⟩
    · rw [mm_up_ne2 _ _ _ _ _ _ q, mm_up_ne2 _ _ _ _ _ _ q, mm_up_ne1 _ _ _ _ _ _ (by decide), if_neg q, if_neg q]
      exact h.2.2.1 p (by omega)
  · rw [mm_up_ne1 _ _ _ _ _ _ (by decide), mm_up_ne1 _ _ _ _ _ _ (by decide), mm_up_ne1 _ _ _ _ _ _ (by decide), mm_up_ne1 _ _ _ _ _ _ (by decide)]
    exact h.2.2.2 p hp
theorem cC_ofPerson_1 (h : LC n ra pl wo ls I A) {x y : Int32} (hx : cellP n x = false) : f_X10_ofPerson [.ref 0, .int x, .int y] (79, e, mm_R0, I, J, A, B) = some (.inr 1, (79, e + 1, mm_R0, I, J, A, B)) := by
  rw [en_X10_ofPerson, sg_X10_ofPerson_0, sp_hasPerson e I J A B h.1 h.2.1, mm_aft_v, hx, sg_X10_ofPerson_8, if_pos (show bi false = 0 from rfl)]
theorem cC_ofPerson_2 (h : LC n ra pl wo ls I A) {x y : Int32} (hx : cellP n x = true) (hy : rgP y 0 3 = false) : f_X10_ofPerson [.ref 0, .int x, .int y] (79, e, mm_R0, I, J, A, B) = some (.inr 2, (79, e + 1, mm_R0, I, J, A, B)) := by
  rw [en_X10_ofPerson, sg_X10_ofPerson_0, sp_hasPerson e I J A B h.1 h.2.1, mm_aft_v, hx, sg_X10_ofPerson_8, if_neg (show ¬ bi true = 0 by decide), sg_X10_ofPerson_31]
  by_cases q : y < 0
  · rw [if_pos q]
  · rw [if_neg q, if_pos ((rg_no hy).resolve_left q)]
theorem cC_ofPerson (h : LC n ra pl wo ls I A) {p w : Nat} (hp : p < n) (hw : w ≤ 3) : f_X10_ofPerson [.ref 0, .int (i32 p), .int (i32 w)] (79, e, mm_R0, I, J, A, B) = some (.inl (some (.int (shV ra pl wo ls p w))), (79, e, mm_R0, I, J, A, B)) := by
  have hn := h.2.1
  have cin : (0 ≤ (i32 p).toInt ∧ (i32 p).toInt < 10) := (i32_in (by omega)).2 (by omega)
  have ix : (i32 p).toInt.toNat = p := i32_ix (by omega)
  have g := h.2.2.1 p hp
  have g2 := h.2.2.2 p (by omega)
  have has := sp_hasPerson e I J A B h.1 h.2.1 (i32 p)
  rw [cellP_i (by omega) (by omega), decide_eq_true hp] at has
  rw [en_X10_ofPerson, sg_X10_ofPerson_0, has, mm_aft_v, sg_X10_ofPerson_8, if_neg (show ¬ bi true = 0 by decide), if_neg (show ¬ i32 w < (0 : Int32) by rw [show (0 : Int32) = i32 0 from rfl, i32_lt (by omega) (by decide)]; omega), if_neg (show ¬ (3 : Int32) < i32 w by rw [show (3 : Int32) = i32 3 from rfl, i32_lt (by decide) (by omega)]; omega), en_X3_shown, sg_X3_shown_0, has, mm_aft_v, sg_X3_shown_5, if_neg (show ¬ bi true = 0 by decide), if_pos cin, if_pos cin, if_pos cin, if_pos cin, ix, g.1, g.2, g2.1, g2.2]
  unfold shV
  have : w = 0 ∨ w = 1 ∨ w = 2 ∨ w = 3 := by omega
  rcases this with q | q | q | q
  · subst q
    rw [if_pos (show i32 0 = 0 from rfl), sg_X3_shown_57, mm_aft_v, sg_X10_ofPerson_50]; rfl
  · subst q
    rw [if_neg (show ¬ i32 1 = 0 by decide), if_pos (show i32 1 = (1 : Int32) from rfl), sg_X3_shown_57, mm_aft_v, sg_X10_ofPerson_50]; rfl
  · subst q
    rw [if_neg (show ¬ i32 2 = 0 by decide), if_neg (show ¬ i32 2 = (1 : Int32) by decide), if_pos (show i32 2 = (2 : Int32) from rfl), sg_X3_shown_57, mm_aft_v, sg_X10_ofPerson_50]; rfl
  · subst q
    rw [if_neg (show ¬ i32 3 = 0 by decide), if_neg (show ¬ i32 3 = (1 : Int32) by decide), if_neg (show ¬ i32 3 = (2 : Int32) by decide), sg_X3_shown_57, mm_aft_v, sg_X10_ofPerson_50]; rfl
theorem CG.low' {I' : Nat → Nat → Int32} {J' : Nat → Nat → Int64} {A' : Nat → Nat → Int32} {B' : Nat → Nat → Int64} (h : CG K R C lg m sw I J A B) (hI : ∀ i, 0 < i → i < 23 → I' i = I i) (hJ : ∀ i, i < 23 → J' i = J i) (hA : ∀ i, i < 23 → A' i = A i) (hB : ∀ i, i < 23 → B' i = B i) : CG K R C lg m sw I' J' A' B' := by
  obtain ⟨h1, h2, h3, h4, h5, h6, h7⟩ := h
  refine ⟨h1.fr (hI 1 (by decide) (by decide)) (hJ 1 (by decide)) (hA 2 (by decide)) (hA 3 (by decide)) (hA 4 (by decide)) (hB 5 (by decide)) (hB 6 (by decide)), ?_, by rw [hJ 7 (by decide)]; exact h3, by rw [hJ 7 (by decide)]; exact h4, by rw [hI 7 (by decide) (by decide)]; exact h5, BQ.fr I J A B h6 (hI 1 (by decide) (by decide)) (hI 9 (by decide) (by decide)) (hI 10 (by decide) (by decide)) (hJ 1 (by decide)) (hJ 9 (by decide)) (hA 2 (by decide)) (hA 3 (by decide)) (hA 4 (by decide)) (hA 11 (by decide)) (hA 12 (by decide)) (hA 13 (by decide)) (hA 14 (by decide)) (hB 5 (by decide)) (hB 6 (by decide)), by rw [hA 18 (by decide)]; exact h7⟩
  rw [show PL lg m sw I' A' = (I' 7 2 = i32 m ∧ I' 7 3 = bi sw ∧ m ≤ 37 ∧ (∀ i, i < m → A' 8 i = i32 (lg i))) from rfl, hI 7 (by decide) (by decide), hA 8 (by decide)]
  exact h2
theorem cC_record_1 (h : LC n ra pl wo ls I A) {x y : Int32} (hx : (cellP n x && cellP n y) = false) : f_X10_record [.ref 0, .int x, .int y] (79, e, mm_R0, I, J, A, B) = some (.inr 1, (79, e + 1, mm_R0, I, J, A, B)) := by
  rw [en_X10_record, sg_X10_record_0, sp_hasPerson e I J A B h.1 h.2.1, mm_aft_v, sg_X10_record_8]
  cases q : cellP n x with
  | false => rw [if_pos (show bi false = 0 from rfl), sg_X10_record_22]
  | true =>
    rw [q, Bool.true_and] at hx
    rw [if_neg (show ¬ bi true = 0 by decide), sp_hasPerson e I J A B h.1 h.2.1, mm_aft_v, hx, sg_X10_record_19, if_pos (show bi false = 0 from rfl), sg_X10_record_22]
theorem record_start (h : LC n ra pl wo ls I A) {x y : Int32} (hx : cellP n x = true) (hy : cellP n y = true) : f_X10_record [.ref 0, .int x, .int y] (79, e, mm_R0, I, J, A, B) = if x = y then (some (.inr 2, (79, e + 1, mm_R0, I, J, A, B))) else (mm_aft (mm_pr tb_X10_record) 53 [some (.ref 0), some (.int x), some (.int y), none] [] (f_X10_winner [.ref 0] (79, e, mm_R0, I, J, A, B))) := by
  rw [en_X10_record, sg_X10_record_0, sp_hasPerson e I J A B h.1 h.2.1, mm_aft_v, sg_X10_record_8, hx, if_neg (show ¬ bi true = 0 by decide), sp_hasPerson e I J A B h.1 h.2.1, mm_aft_v, hy, sg_X10_record_19, if_neg (show ¬ bi true = 0 by decide)]
theorem cC_record_2 (h : LC n ra pl wo ls I A) {x : Int32} (hx : cellP n x = true) : f_X10_record [.ref 0, .int x, .int x] (79, e, mm_R0, I, J, A, B) = some (.inr 2, (79, e + 1, mm_R0, I, J, A, B)) := by
  rw [record_start e I J A B h hx hx, if_pos rfl]
theorem cC_record_3 (g : CG K R C lg m sw I J A B) (t : TC ea tk se pe us lo I A) (hl : lo ≤ 2) (h : LC n ra pl wo ls I A) (hr : I 0 9 = bi rc) {x y : Int32} (hx : cellP n x = true) (hy : cellP n y = true) (hxy : x ≠ y) (no : wnr K R C lg m sw lo = iN ∨ rc = true) : f_X10_record [.ref 0, .int x, .int y] (79, e, mm_R0, I, J, A, B) = some (.inr 3, (79, e + 1, mm_R0, I, J, A, B)) := by
  rw [record_start e I J A B h hx hy, if_neg hxy, sp_winner e I J A B g t hl, mm_aft_v, sg_X10_record_53, sg_X10_record_66]
  by_cases q : wnr K R C lg m sw lo = iN
  · rw [if_pos (show wnr K R C lg m sw lo = (-1 : Int32) from q)]
  · rw [if_neg (show ¬ wnr K R C lg m sw lo = (-1 : Int32) from q), hr, no.resolve_left q, if_neg (show ¬ bi true = 0 by decide)]
theorem cC_record (g : CG K R C lg m sw I J A B) (t : TC ea tk se pe us lo I A) (hl : lo ≤ 2) (h : LC n ra pl wo ls I A) {c : Nat} (hb : LB n ra pl wo ls c) (hc : c ≤ 10000) (hr : I 0 9 = bi false) {x y : Nat} (hx : x < n) (hy : y < n) (hxy : x ≠ y) (hw : ¬ wnr K R C lg m sw lo = iN) {w l : Nat} (hwl : (wnr K R C lg m sw lo = i32 0 ∧ w = x ∧ l = y) ∨ (¬ wnr K R C lg m sw lo = i32 0 ∧ w = y ∧ l = x)) : ∃ I' A', f_X10_record [.ref 0, .int (i32 x), .int (i32 y)] (79, e, mm_R0, I, J, A, B) = some (.inl (some (.int (si (raV ra w l w)))), (79, e, mm_R0, I', J, A', B)) ∧ LC n (raV ra w l) (plcV pl w l) (upN wo w (wo w + 1)) (upN ls l (ls l + 1)) I' A' ∧ FL I I' A A' ∧ I' 0 9 = bi true := by
  have hn := h.2.1
  have cx : cellP n (i32 x) = true := by rw [cellP_i (by omega) (by omega), decide_eq_true hx]
  have cy : cellP n (i32 y) = true := by rw [cellP_i (by omega) (by omega), decide_eq_true hy]
  have h' : LC n ra pl wo ls (mm_up I 0 9 (1 : Int32)) A := ⟨by rw [mm_up_ne1 _ _ _ _ _ _ (by decide)]; exact h.1, h.2⟩
  have hw1 : w < n := by rcases hwl with z | z <;> omega
  have hl1 : l < n := by rcases hwl with z | z <;> omega
  have hne : w ≠ l := by rcases hwl with z | z <;> omega
  obtain ⟨A', a1, a2, a3⟩ := sp_enter e (mm_up I 0 9 (1 : Int32)) J A B h' hb hc hw1 hl1 hne
  refine ⟨mm_up I 0 9 (1 : Int32), A', ?_, a2, ⟨fun i i0 _ => mm_up_row _ _ _ _ _ i0, fun p hp => mm_up_ne2 _ _ _ _ _ _ hp, a3⟩, mm_up_eq _ _ _ _⟩
  rw [record_start e I J A B h cx cy, if_neg (fun z => hxy ((i32_eq (by omega) (by omega)).1 z)), sp_winner e I J A B g t hl, mm_aft_v, sg_X10_record_53, if_neg (show ¬ wnr K R C lg m sw lo = (-1 : Int32) from hw), hr, if_pos (show bi false = 0 from rfl)]
  rcases hwl with ⟨z1, z2, z3⟩ | ⟨z1, z2, z3⟩
  · subst z2
    subst z3
    rw [if_pos (show wnr K R C lg m sw lo = 0 from z1), a1, mm_aft_v, sg_X10_record_95, sg_X10_record_107]
  · subst z2
    subst z3
    rw [if_neg (show ¬ wnr K R C lg m sw lo = 0 from z1), a1, mm_aft_v, sg_X10_record_107]
end
