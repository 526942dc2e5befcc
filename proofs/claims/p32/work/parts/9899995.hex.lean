/-! when all cells are taken, just one has joined: all fillings of a board at once, a bit each -/
def fN {α : Type} (n : Nat) (f : Nat → α) : α := match n with
  | 0 => f 0
  | m + 1 => f (m + 1)
theorem fN_eq {α : Type} (n : Nat) (f : Nat → α) : fN n f = f n := by cases n <;> rfl
def fL {α : Type} : List Nat → (List Nat → α) → α
  | [], k => k []
  | x :: xs, k => fN x (fun y => fL xs (fun ys => k (y :: ys)))
theorem fL_eq {α : Type} : ∀ (l : List Nat) (k : List Nat → α), fL l k = k l := by
  intro l
  induction l with
  | nil => intro k; rfl
  | cons x xs ih => intro k; show fN x _ = _; rw [fN_eq, ih]
/-- bit s: is the cell c in the filling s, of n cells -/
def xb : Nat → Nat → Nat
  | 0, _ => 0
  | n + 1, c => bif Nat.beq c n then (2 ^ 2 ^ n - 1) <<< (2 ^ n) else xb n c ||| (xb n c <<< (2 ^ n))
theorem xb_lt : ∀ n c, xb n c < 2 ^ 2 ^ n := by
  intro n
  induction n with
  | zero => intro c; show 0 < 2 ^ 2 ^ 0; decide
  | succ n ih =>
    intro c
    have e : 2 ^ 2 ^ (n + 1) = 2 ^ (2 ^ n) * 2 ^ (2 ^ n) := by rw [Nat.pow_succ, Nat.mul_two, Nat.pow_add]
    have p : 0 < 2 ^ 2 ^ n := Nat.pow_pos (by decide)
    have sh : ∀ y, y < 2 ^ 2 ^ n → y <<< (2 ^ n) < 2 ^ 2 ^ (n + 1) := fun y hy => by
      rw [Nat.shiftLeft_eq, e]
      exact Nat.mul_lt_mul_of_pos_right hy p
    unfold xb
    cases h : Nat.beq c n with
    | true => exact sh _ (by omega)
    | false =>
      refine Nat.or_lt_two_pow ?_ (sh _ (ih c))
      have := ih c
      rw [e]
      exact Nat.lt_of_lt_of_le this (Nat.le_mul_of_pos_right _ p)
theorem xb_bit : ∀ n c s, s < 2 ^ n → (xb n c).testBit s = (decide (c < n) && s.testBit c) := by
  intro n
  induction n with
  | zero => intro c s _; show (0 : Nat).testBit s = _; rw [Nat.zero_testBit]; simp
  | succ n ih =>
    intro c s hs
    rw [Nat.pow_succ] at hs
    unfold xb
    cases h : Nat.beq c n with
    | true =>
      have e := Nat.eq_of_beq_eq_true h
      subst e
      rw [cond_true, Nat.testBit_shiftLeft, Nat.testBit_two_pow_sub_one, decide_eq_true (show c < c + 1 by omega), Bool.true_and]
      by_cases q : 2 ^ c ≤ s
      · rw [decide_eq_true (show s ≥ 2 ^ c from q), decide_eq_true (show s - 2 ^ c < 2 ^ c by omega)]
        have : s.testBit c = true := by
          rw [show s = 2 ^ c + (s - 2 ^ c) by omega, Nat.testBit_two_pow_add_eq, Nat.testBit_lt_two_pow (by omega)]; rfl
        rw [this]; rfl
      · rw [decide_eq_false (show ¬ s ≥ 2 ^ c from q), Nat.testBit_lt_two_pow (by omega)]; rfl
    | false =>
      have hn : c ≠ n := fun e => by rw [e, Nat.beq_refl] at h; cases h
      rw [cond_false, Nat.testBit_or, Nat.testBit_shiftLeft, show decide (c < n + 1) = decide (c < n) by rw [decide_eq_decide]; omega]
      by_cases q : 2 ^ n ≤ s
      · rw [decide_eq_true (show s ≥ 2 ^ n from q), Bool.true_and, ih c (s - 2 ^ n) (by omega), Nat.testBit_lt_two_pow (Nat.lt_of_lt_of_le (xb_lt n c) (Nat.pow_le_pow_right (by decide) q)), Bool.false_or]
        by_cases hc : c < n
        · rw [decide_eq_true hc, Bool.true_and, Bool.true_and, show s = 2 ^ n + (s - 2 ^ n) by omega, Nat.testBit_two_pow_add_gt hc]
          rw [show 2 ^ n + (s - 2 ^ n) - 2 ^ n = s - 2 ^ n by omega]
        · rw [decide_eq_false hc]; rfl
      · rw [decide_eq_false (show ¬ s ≥ 2 ^ n from q), Bool.false_and, Bool.or_false, ih c s (by omega)]
theorem getD_mr (n : Nat) (f : Nat → Nat) {c : Nat} (h : c < n) : ((List.range n).map f).getD c 0 = f c := by
  rw [List.getD_eq_getElem?_getD, List.getElem?_map, List.getElem?_range h]; rfl
def orS (L : List Nat) (q : Nat → Bool) : Nat → Nat
  | 0 => 0
  | k + 1 => bif q k then orS L q k ||| L.getD k 0 else orS L q k
theorem orS_bit (L : List Nat) (q : Nat → Bool) (s : Nat) : ∀ k, (orS L q k).testBit s = true ↔ ∃ d, d < k ∧ q d = true ∧ (L.getD d 0).testBit s = true := by
  intro k
  induction k with
  | zero => show (0 : Nat).testBit s = true ↔ _; rw [Nat.zero_testBit]; exact ⟨fun h => (by cases h), fun ⟨d, h, _⟩ => absurd h (Nat.not_lt_zero _)⟩
  | succ k ih =>
    unfold orS
    cases h : q k with
    | false =>
      rw [cond_false, ih]
      constructor
      · rintro ⟨d, h1, h2, h3⟩; exact ⟨d, by omega, h2, h3⟩
      · rintro ⟨d, h1, h2, h3⟩
        have : d ≠ k := fun e => by rw [e, h] at h2; cases h2
        exact ⟨d, by omega, h2, h3⟩
    | true =>
      rw [cond_true, Nat.testBit_or, Bool.or_eq_true, ih]
      constructor
      · rintro (⟨d, h1, h2, h3⟩ | h1)
        · exact ⟨d, by omega, h2, h3⟩
        · exact ⟨k, by omega, h, h1⟩
      · rintro ⟨d, h1, h2, h3⟩
        by_cases e : d = k
        · subst e; exact Or.inr h3
        · exact Or.inl ⟨d, by omega, h2, h3⟩
section
variable (K R C : Nat)
def stpS (X L : List Nat) : List Nat := (List.range (bN K R C)).map (fun c => X.getD c 0 &&& (L.getD c 0 ||| orS L (fun d => bBe K R C d c) (bN K R C)))
def itS (X : List Nat) : Nat → List Nat → List Nat
  | 0, L => L
  | k + 1, L => itS X k (stpS K R C X L)
def goS (X : List Nat) : Nat → List Nat → (List Nat → Bool) → Bool
  | 0, L, F => F L
  | k + 1, L, F => fL (stpS K R C X L) (fun L' => goS X k L' F)
theorem goS_eq (X : List Nat) (F : List Nat → Bool) : ∀ k L, goS K R C X k L F = F (itS K R C X k L) := by
  intro k
  induction k with
  | zero => intro L; rfl
  | succ k ih => intro L; show fL _ _ = _; rw [fL_eq, ih]; rfl
def staS (X : List Nat) (a : Nat → Bool) : List Nat := (List.range (bN K R C)).map (fun c => bif a c then X.getD c 0 else 0)
def leS (L M : List Nat) : Bool := (List.range (bN K R C)).all (fun c => Nat.beq (L.getD c 0 ||| M.getD c 0) (M.getD c 0))
/-- a filling s of the rows X is w -/
def repS (X : List Nat) (s : Nat) (w : Int64) : Prop := ∀ c, c < bN K R C → (X.getD c 0).testBit s = mb w c
/-- the flood of a in X, and what follows of it -/
def fldS (X : List Nat) (a : Nat → Bool) (F : List Nat → Bool) : Bool := fL (staS K R C X a) (fun L0 => goS K R C X (bN K R C) L0 (fun L => leS K R C L0 L && (leS K R C (stpS K R C X L) L && F L)))
variable {K R C}
theorem leS_of {L M : List Nat} (h : leS K R C L M = true) {c s : Nat} (hc : c < bN K R C) (q : (L.getD c 0).testBit s = true) : (M.getD c 0).testBit s = true := by
  unfold leS at h
  have h1 := List.all_eq_true.mp h c (List.mem_range.2 hc)
  have h2 := Nat.eq_of_beq_eq_true h1
  rw [← h2, Nat.testBit_or, q]; rfl
theorem itS_sound (v : bV K R C = true) {X : List Nat} {A w : Int64} {s : Nat} (hX : repS K R C X s w) : ∀ (k : Nat) (L : List Nat), (∀ c, c < bN K R C → (L.getD c 0).testBit s = true → Conn (bN K R C) (bNb K R C) A w c) → ∀ c, c < bN K R C → ((itS K R C X k L).getD c 0).testBit s = true → Conn (bN K R C) (bNb K R C) A w c := by
  intro k
  induction k with
  | zero => intro L h; exact h
  | succ k ih =>
    intro L h
    refine ih _ (fun c hc q => ?_)
    unfold stpS at q
    rw [getD_mr _ _ hc, Nat.testBit_and, Nat.testBit_or, Bool.and_eq_true, Bool.or_eq_true, hX c hc, orS_bit] at q
    rcases q.2 with q2 | ⟨d, d1, d2, d3⟩
    · exact h c hc q2
    · refine (h d d1 d3).step hc ?_ q.1
      have := bN_le v
      unfold bNb
      rw [mb_ms _ _ _ (by omega), decide_eq_true hc, Bool.true_and]
      exact d2
theorem fldS_of (v : bV K R C = true) {X : List Nat} {a : Nat → Bool} {F : List Nat → Bool} (h : fldS K R C X a F = true) : ∃ L, F L = true ∧ ∀ (A w : Int64) (s : Nat), repS K R C X s w → (∀ c, c < bN K R C → mb A c = a c) → ∀ c, c < bN K R C → ((L.getD c 0).testBit s = true ↔ Conn (bN K R C) (bNb K R C) A w c) := by
  unfold fldS at h
  rw [fL_eq, goS_eq, Bool.and_eq_true, Bool.and_eq_true] at h
  obtain ⟨h1, h2, h3⟩ := h
  refine ⟨_, h3, fun A w s hX hA c hc => ⟨fun q => ?_, fun q => ?_⟩⟩
  · refine itS_sound v hX (bN K R C) _ (fun c hc q => ?_) c hc q
    unfold staS at q
    rw [getD_mr _ _ hc] at q
    cases ha : a c with
    | false => rw [ha, cond_false, Nat.zero_testBit] at q; cases q
    | true =>
      rw [ha, cond_true, hX c hc] at q
      exact Conn.base hc (by rw [hA c hc, ha]) q
  · refine (q (fun c => c < bN K R C ∧ ((itS K R C X (bN K R C) (staS K R C X a)).getD c 0).testBit s = true) (fun c hc a1 a2 => ⟨hc, ?_⟩) (fun c d hd p1 p2 p3 => ⟨hd, ?_⟩)).2
    · refine leS_of h1 hc ?_
      unfold staS
      rw [getD_mr _ _ hc, ← hA c hc, a1, cond_true, hX c hc]
      exact a2
    · refine leS_of h2 hd ?_
      unfold stpS
      rw [getD_mr _ _ hd, Nat.testBit_and, Nat.testBit_or, Bool.and_eq_true, Bool.or_eq_true, hX d hd, orS_bit]
      refine ⟨p3, Or.inr ⟨c, p1.1, ?_, p1.2⟩⟩
      have := bN_le v
      unfold bNb at p2
      rw [mb_ms _ _ _ (by omega), Bool.and_eq_true] at p2
      exact p2.2
/-- w hangs together from A on to the side -/
def HitS (K R C : Nat) (A w : Int64) (q : Nat → Bool) : Prop := ∃ c, c < bN K R C ∧ Conn (bN K R C) (bNb K R C) A w c ∧ q c = true
theorem orS_hit {L : List Nat} {A w : Int64} {s : Nat} (hL : ∀ c, c < bN K R C → ((L.getD c 0).testBit s = true ↔ Conn (bN K R C) (bNb K R C) A w c)) (q : Nat → Bool) : (orS L q (bN K R C)).testBit s = true ↔ HitS K R C A w q := by
  rw [orS_bit]
  constructor
  · rintro ⟨d, d1, d2, d3⟩; exact ⟨d, d1, (hL d d1).1 d3, d2⟩
  · rintro ⟨d, d1, d2, d3⟩; exact ⟨d, d1, d3, (hL d d1).2 d2⟩
def sdS (K R C s c : Nat) : Bool := Nat.blt s (bSd K) && bAt K R C c s
theorem sd_mb (v : bV K R C = true) (s c : Nat) (hc : c < bN K R C) : mb (bSs K R C s) c = sdS K R C s c := by
  have := bN_le v
  unfold bSs sdS
  rw [mb_ms _ _ _ (by omega), decide_eq_true hc, Bool.true_and]
def xsS (K R C : Nat) : List Nat := (List.range (bN K R C)).map (fun c => xb (bN K R C) c)
def ysS (K R C : Nat) (X : List Nat) : List Nat := (List.range (bN K R C)).map (fun c => (2 ^ 2 ^ (bN K R C) - 1) ^^^ X.getD c 0)
abbrev cplS (K R C : Nat) (w : Int64) : Int64 := (mbit (bN K R C) - 1) &&& (w ^^^ (-1))
theorem mb_cplS (v : bV K R C = true) (w : Int64) {c : Nat} (h : c < bN K R C) : mb (cplS K R C w) c = !mb w c := by
  have := bN_le v
  rw [mb_and, mb_alln (bN_le v), decide_eq_true h, Bool.true_and, mb_cpl _ _ (by omega)]
theorem cplS_lt (v : bV K R C = true) (w : Int64) (c : Nat) (h : mb (cplS K R C w) c = true) : c < bN K R C := by
  rw [mb_and, mb_alln (bN_le v), Bool.and_eq_true, decide_eq_true_eq] at h
  exact h.1
/-- the number of a filling -/
abbrev nuS (w : Int64) : Nat := w.toBitVec.toNat
theorem nuS_lt {w : Int64} (hw : ∀ c, mb w c = true → c < bN K R C) : nuS w < 2 ^ bN K R C := by
  refine Nat.lt_pow_two_of_testBit _ (fun i hi => ?_)
  rw [← mb_nat]
  refine bool_f (fun z => ?_)
  have := hw i z
  omega
theorem xsS_rep {w : Int64} (hw : ∀ c, mb w c = true → c < bN K R C) : repS K R C (xsS K R C) (nuS w) w := by
  intro c hc
  unfold xsS
  rw [getD_mr _ _ hc, xb_bit _ _ _ (nuS_lt hw), decide_eq_true hc, Bool.true_and, mb_nat]
theorem ysS_rep (v : bV K R C = true) {w : Int64} (hw : ∀ c, mb w c = true → c < bN K R C) {X : List Nat} (hX : repS K R C X (nuS w) w) : repS K R C (ysS K R C X) (nuS w) (cplS K R C w) := by
  intro c hc
  unfold ysS
  have p : nuS w < 2 ^ bN K R C := nuS_lt hw
  rw [getD_mr _ _ hc, Nat.testBit_xor, hX c hc, mb_cplS v w hc, Nat.testBit_two_pow_sub_one, decide_eq_true p, Bool.true_xor]
theorem xor_all {n a b s : Nat} (h : Nat.beq (a ^^^ b) (2 ^ 2 ^ n - 1) = true) (hs : s < 2 ^ n) : a.testBit s = !b.testBit s := by
  have e := congrArg (fun z => z.testBit s) (Nat.eq_of_beq_eq_true h)
  have e : (a ^^^ b).testBit s = (2 ^ 2 ^ n - 1).testBit s := e
  rw [Nat.testBit_xor, Nat.testBit_two_pow_sub_one, decide_eq_true hs] at e
  cases h1 : a.testBit s <;> cases h2 : b.testBit s <;> rw [h1, h2] at e <;> first | rfl | cases e
/-- rhombs: the sides 0 and 1 of a filling, or the sides 2 and 3 of the others -/
def hexR (K R C : Nat) : Bool := fL (xsS K R C) (fun X => fldS K R C X (sdS K R C 0) (fun L => fN (orS L (sdS K R C 1) (bN K R C)) (fun a => fL (ysS K R C X) (fun Y => fldS K R C Y (sdS K R C 2) (fun M => Nat.beq (a ^^^ orS M (sdS K R C 3) (bN K R C)) (2 ^ 2 ^ (bN K R C) - 1))))))
theorem hexR_of (v : bV K R C = true) (h : hexR K R C = true) {w : Int64} (hw : ∀ c, mb w c = true → c < bN K R C) : HitS K R C (bSs K R C 0) w (sdS K R C 1) ↔ ¬ HitS K R C (bSs K R C 2) (cplS K R C w) (sdS K R C 3) := by
  unfold hexR at h
  rw [fL_eq] at h
  obtain ⟨L, h1, h2⟩ := fldS_of v h
  rw [fN_eq, fL_eq] at h1
  obtain ⟨M, h3, h4⟩ := fldS_of v h1
  have x1 := xsS_rep hw
  have r1 := orS_hit (h2 (bSs K R C 0) w _ x1 (fun c hc => sd_mb v 0 c hc)) (sdS K R C 1)
  have r2 := orS_hit (h4 (bSs K R C 2) _ _ (ysS_rep v hw x1) (fun c hc => sd_mb v 2 c hc)) (sdS K R C 3)
  have := xor_all h3 (nuS_lt hw)
  rw [← r1, ← r2, this]
  cases Nat.testBit _ _ <;> simp
/-- triangles: a cell of the side 0, from which a filling comes to the sides 1 and 2 -/
def triG (K R C : Nat) (X : List Nat) : List Nat → Nat → (Nat → Bool) → Bool
  | [], acc, F => F acc
  | c0 :: cs, acc, F => bif sdS K R C 0 c0 then fldS K R C X (fun c => Nat.beq c c0) (fun L => fN (acc ||| (orS L (sdS K R C 1) (bN K R C) &&& orS L (sdS K R C 2) (bN K R C))) (fun a => triG K R C X cs a F)) else triG K R C X cs acc F
def TriS (K R C : Nat) (w : Int64) (c0 : Nat) : Prop := sdS K R C 0 c0 = true ∧ HitS K R C (mbit c0) w (sdS K R C 1) ∧ HitS K R C (mbit c0) w (sdS K R C 2)
theorem triG_of (v : bV K R C = true) {X : List Nat} {F : Nat → Bool} : ∀ (cs : List Nat) (acc : Nat), (∀ c ∈ cs, c < bN K R C) → triG K R C X cs acc F = true → ∃ a, F a = true ∧ ∀ (w : Int64) (s : Nat), repS K R C X s w → (a.testBit s = true ↔ (acc.testBit s = true ∨ ∃ c0, c0 ∈ cs ∧ TriS K R C w c0)) := by
  intro cs
  induction cs with
  | nil =>
    intro acc _ h
    exact ⟨acc, h, fun w s _ => ⟨fun q => Or.inl q, fun q => q.elim id (fun ⟨_, z, _⟩ => (by cases z))⟩⟩
  | cons c0 cs ih =>
    intro acc hcs h
    unfold triG at h
    have hc0 := hcs c0 List.mem_cons_self
    have bl := bN_le v
    cases hs : sdS K R C 0 c0 with
    | false =>
      rw [hs, cond_false] at h
      obtain ⟨a, a1, a2⟩ := ih acc (fun c hc => hcs c (List.mem_cons_of_mem _ hc)) h
      refine ⟨a, a1, fun w s hX => (a2 w s hX).trans ⟨?_, ?_⟩⟩
      · rintro (q | ⟨c, c1, c2⟩)
        · exact Or.inl q
        · exact Or.inr ⟨c, List.mem_cons_of_mem _ c1, c2⟩
      · rintro (q | ⟨c, c1, c2⟩)
        · exact Or.inl q
        · rcases List.mem_cons.mp c1 with e | e
          · subst e; rw [c2.1] at hs; cases hs
          · exact Or.inr ⟨c, e, c2⟩
    | true =>
      rw [hs, cond_true] at h
      obtain ⟨L, h1, h2⟩ := fldS_of v h
      rw [fN_eq] at h1
      obtain ⟨a, a1, a2⟩ := ih _ (fun c hc => hcs c (List.mem_cons_of_mem _ hc)) h1
      refine ⟨a, a1, fun w s hX => (a2 w s hX).trans ?_⟩
      have hA : ∀ c, c < bN K R C → mb (mbit c0) c = Nat.beq c c0 := fun c hc => by
        rw [mb_bit _ _ (by omega)]
        cases q : Nat.beq c c0 with
        | true => exact decide_eq_true (Nat.eq_of_beq_eq_true q).symm
        | false => exact decide_eq_false (fun e => by rw [← e, Nat.beq_refl] at q; cases q)
      have r1 := orS_hit (h2 (mbit c0) w s hX hA) (sdS K R C 1)
      have r2 := orS_hit (h2 (mbit c0) w s hX hA) (sdS K R C 2)
      rw [Nat.testBit_or, Nat.testBit_and, Bool.or_eq_true, Bool.and_eq_true, r1, r2]
      constructor
      · rintro ((q | q) | ⟨c, c1, c2⟩)
        · exact Or.inl q
        · exact Or.inr ⟨c0, List.mem_cons_self, hs, q⟩
        · exact Or.inr ⟨c, List.mem_cons_of_mem _ c1, c2⟩
      · rintro (q | ⟨c, c1, c2⟩)
        · exact Or.inl (Or.inl q)
        · rcases List.mem_cons.mp c1 with e | e
          · subst e; exact Or.inl (Or.inr c2.2)
          · exact Or.inr ⟨c, e, c2⟩
def hexT (K R C : Nat) : Bool := fL (xsS K R C) (fun X => triG K R C X (List.range (bN K R C)) 0 (fun a => fL (ysS K R C X) (fun Y => triG K R C Y (List.range (bN K R C)) 0 (fun b => Nat.beq (a ^^^ b) (2 ^ 2 ^ (bN K R C) - 1)))))
theorem hexT_of (v : bV K R C = true) (h : hexT K R C = true) {w : Int64} (hw : ∀ c, mb w c = true → c < bN K R C) : (∃ c0, c0 < bN K R C ∧ TriS K R C w c0) ↔ ¬ ∃ c0, c0 < bN K R C ∧ TriS K R C (cplS K R C w) c0 := by
  unfold hexT at h
  rw [fL_eq] at h
  obtain ⟨a, h1, h2⟩ := triG_of v _ _ (fun c hc => List.mem_range.1 hc) h
  rw [fL_eq] at h1
  obtain ⟨b, h3, h4⟩ := triG_of v _ _ (fun c hc => List.mem_range.1 hc) h1
  have x1 := xsS_rep hw
  have r1 := h2 w _ x1
  have r2 := h4 _ _ (ysS_rep v hw x1)
  have := xor_all h3 (nuS_lt hw)
  rw [Nat.zero_testBit] at r1 r2
  have q1 : a.testBit (nuS w) = true ↔ ∃ c0, c0 < bN K R C ∧ TriS K R C w c0 := r1.trans ⟨fun z => z.elim (fun z => by cases z) (fun ⟨c, c1, c2⟩ => ⟨c, List.mem_range.1 c1, c2⟩), fun ⟨c, c1, c2⟩ => Or.inr ⟨c, List.mem_range.2 c1, c2⟩⟩
  have q2 : b.testBit (nuS w) = true ↔ ∃ c0, c0 < bN K R C ∧ TriS K R C (cplS K R C w) c0 := r2.trans ⟨fun z => z.elim (fun z => by cases z) (fun ⟨c, c1, c2⟩ => ⟨c, List.mem_range.1 c1, c2⟩), fun ⟨c, c1, c2⟩ => Or.inr ⟨c, List.mem_range.2 c1, c2⟩⟩
  rw [← q1, ← q2, this]
  cases b.testBit _ <;> simp
/-! the class's words for it -/
theorem and_nz {x y : Int64} : ¬ x &&& y = 0 ↔ ∃ c, mb x c = true ∧ mb y c = true := by
  constructor
  · intro h
    obtain ⟨c, h1, _⟩ := mb_low_ex h
    rw [mb_and, Bool.and_eq_true] at h1
    exact ⟨c, h1⟩
  · rintro ⟨c, h1, h2⟩ h
    have : mb (x &&& y) c = true := by rw [mb_and, h1, h2]; rfl
    rw [h, mb_zero] at this
    cases this
theorem hit_of (v : bV K R C = true) (A w : Int64) (t : Nat) : ¬ rcB K R C A w &&& bSs K R C t = 0 ↔ HitS K R C A w (sdS K R C t) := by
  have bl := bN_le v
  rw [and_nz]
  unfold rcB HitS
  constructor
  · rintro ⟨c, c1, c2⟩
    have h := (mb_rch (by omega) _ _ _ _).1 c1
    exact ⟨c, h.lt, h, by rw [← sd_mb v t c h.lt]; exact c2⟩
  · rintro ⟨c, c1, c2, c3⟩
    exact ⟨c, (mb_rch (by omega) _ _ _ _).2 c2, by rw [sd_mb v t c c1]; exact c3⟩
theorem ldB_hit (v : bV K R C = true) (s t : Nat) (w : Int64) : ldB K R C s t w = true ↔ HitS K R C (bSs K R C s) w (sdS K R C t) := by
  unfold ldB
  rw [← hit_of v, Bool.not_eq_true', decide_eq_false_iff_not]
theorem b_symm (v : bV K R C = true) {c d : Nat} (hc : c < bN K R C) (h : mb (bNb K R C c) d = true) : mb (bNb K R C d) c = true := by
  have bl := bN_le v
  have hd := bNb_lt v h
  unfold bNb at h ⊢
  rw [mb_ms _ _ _ (by omega), Bool.and_eq_true] at h
  rw [mb_ms _ _ _ (by omega), decide_eq_true hc, Bool.true_and]
  have := eq_of_beq (all2_of (bAll_of b_sym v) hc hd)
  rw [← this]
  exact h.2
theorem Conn.tr {x y z : Nat} {w : Int64} (v : bV K R C = true) (h1 : Conn (bN K R C) (bNb K R C) (mbit x) w y) (h2 : Conn (bN K R C) (bNb K R C) (mbit y) w z) : Conn (bN K R C) (bNb K R C) (mbit x) w z := by
  have bl := bN_le v
  have hy := h1.lt
  refine h2.ind (P := fun z => Conn (bN K R C) (bNb K R C) (mbit x) w z) (fun c hc a1 a2 => ?_) (fun c d hd _ p q r => p.step hd q r)
  rw [mb_bit _ _ (by omega), decide_eq_true_eq] at a1
  rw [← a1]; exact h1
/-- what hangs together with c from d on, where d hangs together with c -/
theorem Conn.swp (v : bV K R C = true) {w : Int64} {c d : Nat} (hc : c < bN K R C) (h : Conn (bN K R C) (bNb K R C) (mbit c) w d) : Conn (bN K R C) (bNb K R C) (mbit d) w c := by
  have bl := bN_le v
  have base : ∀ x, x < bN K R C → mb w x = true → Conn (bN K R C) (bNb K R C) (mbit x) w x := fun x h1 h2 => Conn.base h1 (by rw [mb_bit _ _ (by omega)]; exact decide_eq_true rfl) h2
  refine (h.ind (P := fun d => Conn (bN K R C) (bNb K R C) (mbit d) w c ∧ d < bN K R C ∧ mb w d = true) (fun x hx a1 a2 => ?_) (fun x d hd hx p q r => ?_)).1
  · rw [mb_bit _ _ (by omega), decide_eq_true_eq] at a1
    subst a1
    exact ⟨base _ hx a2, hx, a2⟩
  · exact ⟨Conn.tr v ((base d hd r).step p.2.1 (b_symm v p.2.1 q) p.2.2) p.1, hd, r⟩
theorem alF_tri (v : bV K R C = true) {w : Int64} : ∀ (f : Nat) (l : Int64), cf (mb l) (bN K R C) ≤ f → (∀ c, mb l c = true → c < bN K R C) → (∀ c, mb l c = true → mb w c = true) → (alF (rcB K R C) (bSs K R C 1) (bSs K R C 2) w f l = true ↔ ∃ c0, mb l c0 = true ∧ HitS K R C (mbit c0) w (sdS K R C 1) ∧ HitS K R C (mbit c0) w (sdS K R C 2)) := by
  have bl := bN_le v
  have no : ∀ l : Int64, l = 0 → ¬ ∃ c0, mb l c0 = true ∧ HitS K R C (mbit c0) w (sdS K R C 1) ∧ HitS K R C (mbit c0) w (sdS K R C 2) := by
    rintro l rfl ⟨c, c1, _⟩
    rw [mb_zero] at c1; cases c1
  intro f
  induction f with
  | zero =>
    intro l h hl hw
    have l0 : l = 0 := by
      by_cases z : l = 0
      · exact z
      · have := cf_pos z hl
        omega
    exact ⟨fun z => (by cases z), fun z => absurd z (no l l0)⟩
  | succ f ih =>
    intro l h hl hw
    by_cases l0 : l = 0
    · rw [l0, alF_0]
      exact ⟨fun z => (by cases z), fun z => absurd z (no 0 rfl)⟩
    · obtain ⟨k, k1, k2⟩ := mb_low_ex l0
      have kl := hl k k1
      have lb := mb_lowbit k1 k2
      have dc := cf_dec (by omega : bN K R C ≤ 36) (bNb K R C) l0 hl hw
      have rest := ih (l &&& (rcB K R C (l &&& (-l)) w ^^^ (-1))) (by unfold rcB; omega) (and_lt hl) (and_w hw)
      have back : ¬ (HitS K R C (mbit k) w (sdS K R C 1) ∧ HitS K R C (mbit k) w (sdS K R C 2)) → (alF (rcB K R C) (bSs K R C 1) (bSs K R C 2) w f (l &&& (rcB K R C (l &&& (-l)) w ^^^ (-1))) = true ↔ ∃ c0, mb l c0 = true ∧ HitS K R C (mbit c0) w (sdS K R C 1) ∧ HitS K R C (mbit c0) w (sdS K R C 2)) := by
        intro nk
        rw [rest]
        constructor
        · rintro ⟨c, c1, c2⟩
          rw [mb_and, Bool.and_eq_true] at c1
          exact ⟨c, c1.1, c2⟩
        · rintro ⟨c, c1, c2, c3⟩
          have cl := hl c c1
          refine ⟨c, ?_, c2, c3⟩
          rw [mb_and, c1, Bool.true_and, mb_cpl _ _ (by omega), Bool.not_eq_true']
          refine bool_f (fun z => nk ?_)
          rw [lb] at z
          have z2 := (mb_rch (by omega) _ _ _ _).1 z
          obtain ⟨x, x1, x2, x3⟩ := c2
          obtain ⟨y, y1, y2, y3⟩ := c3
          exact ⟨⟨x, x1, Conn.tr v z2 x2, x3⟩, ⟨y, y1, Conn.tr v z2 y2, y3⟩⟩
      rw [alF_s _ _ _ _ _ l0]
      by_cases h1 : rcB K R C (l &&& (-l)) w &&& bSs K R C 1 = 0
      · rw [if_pos h1]
        rw [lb] at h1
        exact back (fun z => (hit_of v _ _ _).2 z.1 h1)
      · rw [if_neg h1]
        by_cases h2 : rcB K R C (l &&& (-l)) w &&& bSs K R C 2 = 0
        · rw [if_pos h2]
          rw [lb] at h2
          exact back (fun z => (hit_of v _ _ _).2 z.2 h2)
        · rw [if_neg h2]
          rw [lb] at h1 h2
          exact ⟨fun _ => ⟨k, k1, (hit_of v _ _ _).1 h1, (hit_of v _ _ _).1 h2⟩, fun _ => rfl⟩
theorem tri_jn {R C : Nat} (v : bV 1 R C = true) (p : Nat) {w : Int64} (hw : ∀ c, mb w c = true → c < bN 1 R C) : jnB 1 R C p w = true ↔ ∃ c0, c0 < bN 1 R C ∧ TriS 1 R C w c0 := by
  have bl := bN_le v
  have h := alF_tri v (w := w) 36 (w &&& bSs 1 R C 0) (Nat.le_trans (cf_le _ _) bl) (and_lt hw) (fun c hc => by rw [mb_and, Bool.and_eq_true] at hc; exact hc.1)
  have e : jnB 1 R C p w = alF (rcB 1 R C) (bSs 1 R C 1) (bSs 1 R C 2) w 36 (w &&& bSs 1 R C 0) := rfl
  rw [e, h]
  constructor
  · rintro ⟨c, c1, c2⟩
    rw [mb_and, Bool.and_eq_true] at c1
    have cl := hw c c1.1
    exact ⟨c, cl, by rw [← sd_mb v 0 c cl]; exact c1.2, c2⟩
  · rintro ⟨c, c1, c2, c3⟩
    refine ⟨c, ?_, c3⟩
    obtain ⟨⟨x, x1, x2, x3⟩, _⟩ := c3
    have : mb w c = true := by
      have := x2.ind (P := fun _ => mb w c = true) (fun y hy a1 a2 => by
        rw [mb_bit _ _ (by omega), decide_eq_true_eq] at a1
        rw [a1]; exact a2) (fun _ _ _ _ q _ _ => q)
      exact this
    rw [mb_and, this, sd_mb v 0 c c1, c2]; rfl
theorem cplS_cplS (v : bV K R C = true) {w : Int64} (hw : ∀ c, mb w c = true → c < bN K R C) : cplS K R C (cplS K R C w) = w := by
  apply mb_ext
  intro c _
  by_cases h : c < bN K R C
  · rw [mb_cplS v _ h, mb_cplS v _ h, Bool.not_not]
  · rw [bool_f (fun z => h (cplS_lt v _ c z)), bool_f (fun z => h (hw c z))]
theorem hexP_of (v : bV K R C = true) (h0 : K = 0 → hexR K R C = true) (h1 : K = 1 → hexT K R C = true) : HexP K R C := by
  intro w hw
  have hK : K = 0 ∨ K = 1 ∨ K = 2 := by
    have := bV_K v
    omega
  rcases hK with q | q | q
  · subst q
    have e0 : jnB 0 R C 0 w = ldB 0 R C 0 1 w := rfl
    have e1 : jnB 0 R C 1 (cplS 0 R C w) = ldB 0 R C 2 3 (cplS 0 R C w) := rfl
    rw [e0, e1, Bool.eq_iff_iff, ldB_hit v, hexR_of v (h0 rfl) hw, ← ldB_hit v]
    cases ldB 0 R C 2 3 (cplS 0 R C w) <;> simp
  · subst q
    rw [Bool.eq_iff_iff, tri_jn v 0 hw, hexT_of v (h1 rfl) hw, ← tri_jn v 1 (cplS_lt v w)]
    show _ ↔ (!jnB 1 R C 1 (cplS 1 R C w)) = true
    cases jnB 1 R C 1 (cplS 1 R C w) <;> simp
  · subst q
    have e0 : jnB 2 R C 0 w = ldB 2 R C 0 1 w := rfl
    have e1 : jnB 2 R C 1 (cplS 2 R C w) = !ldB 2 R C 0 1 (cplS 2 R C (cplS 2 R C w)) := rfl
    rw [e0, e1, cplS_cplS v hw, Bool.not_not]
end
theorem hex022 : hexR 0 2 2 = true := by decide +kernel
theorem hex023 : hexR 0 2 3 = true := by decide +kernel
theorem hex024 : hexR 0 2 4 = true := by decide +kernel
theorem hex032 : hexR 0 3 2 = true := by decide +kernel
theorem hex033 : hexR 0 3 3 = true := by decide +kernel
theorem hex034 : hexR 0 3 4 = true := by decide +kernel
theorem hex042 : hexR 0 4 2 = true := by decide +kernel
theorem hex043 : hexR 0 4 3 = true := by decide +kernel
theorem hex044 : hexR 0 4 4 = true := by decide +kernel
theorem hex122 : hexT 1 2 2 = true := by decide +kernel
theorem hex133 : hexT 1 3 3 = true := by decide +kernel
theorem hex144 : hexT 1 4 4 = true := by decide +kernel
/-- the boards of the law -/
theorem hexP {K R C : Nat} (v : bV K R C = true) (hR : R ≤ 4) (hC : C ≤ 4) : HexP K R C := by
  have b := v
  unfold bV at b
  simp only [Bool.and_eq_true, Nat.blt_eq, Nat.ble_eq] at b
  refine hexP_of v (fun z => ?_) (fun z => ?_)
  · subst z
    have c2 : 2 ≤ C := Nat.le_of_ble_eq_true (show Nat.ble 2 C = true from b.2)
    rcases (show R = 2 ∨ R = 3 ∨ R = 4 by omega) with rfl | rfl | rfl <;> rcases (show C = 2 ∨ C = 3 ∨ C = 4 by omega) with rfl | rfl | rfl
    · exact hex022
    · exact hex023
    · exact hex024
    · exact hex032
    · exact hex033
    · exact hex034
    · exact hex042
    · exact hex043
    · exact hex044
  · subst z
    have c2 : C = R := Nat.eq_of_beq_eq_true (show Nat.beq C R = true from b.2)
    subst c2
    rcases (show C = 2 ∨ C = 3 ∨ C = 4 by omega) with rfl | rfl | rfl
    · exact hex122
    · exact hex133
    · exact hex144
