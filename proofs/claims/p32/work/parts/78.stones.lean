/-! stones by the log: what a move adds and what its undoing takes away -/
theorem mb_stN (lg : Nat → Nat) (f p : Nat) (c : Nat) : ∀ m, (∀ i, i < m → lg i < 64) → (mb (stN lg f p m) c = true ↔ ∃ i, i < m ∧ f ≤ i ∧ i % 2 = p ∧ lg i = c) := by
  intro m
  induction m with
  | zero =>
    intro _
    constructor
    · intro h
      have h2 : mb (0 : Int64) c = true := h
      rw [mb_zero] at h2; cases h2
    · rintro ⟨i, h, _⟩; omega
  | succ m ih =>
    intro hl
    have ih' := ih (fun i h => hl i (by omega))
    show mb (stN lg f p m ||| (if f ≤ m ∧ m % 2 = p then mbit (lg m) else 0)) c = true ↔ _
    rw [mb_or, Bool.or_eq_true, ih']
    by_cases q : f ≤ m ∧ m % 2 = p
    · rw [if_pos q, mb_bit _ _ (hl m (by omega)), decide_eq_true_eq]
      constructor
      · rintro (⟨i, h1, h2⟩ | h)
        · exact ⟨i, by omega, h2⟩
        · exact ⟨m, by omega, q.1, q.2, h⟩
      · rintro ⟨i, h1, h2, h3, h4⟩
        by_cases e : i = m
        · subst e; exact Or.inr h4
        · exact Or.inl ⟨i, by omega, h2, h3, h4⟩
    · rw [if_neg q, mb_zero]
      constructor
      · rintro (⟨i, h1, h2⟩ | h)
        · exact ⟨i, by omega, h2⟩
        · cases h
      · rintro ⟨i, h1, h2, h3, h4⟩
        by_cases e : i = m
        · subst e; exact absurd ⟨h2, h3⟩ q
        · exact Or.inl ⟨i, by omega, h2, h3, h4⟩
theorem stN_congr {lg lg' : Nat → Nat} (f p : Nat) : ∀ m, (∀ i, i < m → lg i = lg' i) → stN lg f p m = stN lg' f p m := by
  intro m
  induction m with
  | zero => intro _; rfl
  | succ m ih =>
    intro h
    show stN lg f p m ||| (if f ≤ m ∧ m % 2 = p then mbit (lg m) else 0) = stN lg' f p m ||| (if f ≤ m ∧ m % 2 = p then mbit (lg' m) else 0)
    rw [ih (fun i hi => h i (by omega)), h m (by omega)]
theorem stN_put (lg : Nat → Nat) (f p m c : Nat) : stN (lgp lg m c) f p (m + 1) = stN lg f p m ||| (if f ≤ m ∧ m % 2 = p then mbit c else 0) := by
  show stN (lgp lg m c) f p m ||| (if f ≤ m ∧ m % 2 = p then mbit (lgp lg m c m) else 0) = _
  rw [stN_congr (lg' := lg) f p m (fun i hi => by unfold lgp; rw [if_neg (by omega)])]
  have : lgp lg m c m = c := by unfold lgp; rw [if_pos rfl]
  rw [this]
theorem or_zero64 (x : Int64) : x ||| 0 = x := by
  apply mb_ext
  intro c _
  rw [mb_or, mb_zero, Bool.or_false]
/-- the moves that count are of cells of their own -/
abbrev Dst (lg : Nat → Nat) (f m : Nat) : Prop := ∀ i j, f ≤ i → i < j → j < m → lg i ≠ lg j
theorem stN_back (lg : Nat → Nat) (f p m : Nat) (hl : ∀ i, i < m + 1 → lg i < 64) (hd : Dst lg f (m + 1)) (hf : f ≤ m) (hp : m % 2 = p) : stN lg f p (m + 1) &&& (mbit (lg m) ^^^ (-1)) = stN lg f p m := by
  apply mb_ext
  intro c hc
  rw [mb_and, mb_cpl _ _ hc, mb_bit _ _ (hl m (by omega))]
  have a := mb_stN lg f p c (m + 1) hl
  have b := mb_stN lg f p c m (fun i h => hl i (by omega))
  by_cases e : lg m = c
  · rw [decide_eq_true e, Bool.not_true, Bool.and_false]
    symm
    apply bool_f
    intro q
    obtain ⟨i, h1, h2, h3, h4⟩ := b.1 q
    exact hd i m h2 h1 (by omega) (by rw [h4, e])
  · rw [decide_eq_false e, Bool.not_false, Bool.and_true]
    apply Bool.eq_iff_iff.2
    rw [a, b]
    constructor
    · rintro ⟨i, h1, h2, h3, h4⟩
      by_cases q : i = m
      · subst q; exact absurd h4 e
      · exact ⟨i, by omega, h2, h3, h4⟩
    · rintro ⟨i, h1, h2⟩
      exact ⟨i, by omega, h2⟩
theorem stN_skip (lg : Nat → Nat) (f p m : Nat) (hp : ¬ m % 2 = p) : stN lg f p (m + 1) = stN lg f p m := by
  show stN lg f p m ||| (if f ≤ m ∧ m % 2 = p then mbit (lg m) else 0) = _
  rw [if_neg (fun q => hp q.2), or_zero64]
theorem kf_s {sw : Bool} {m : Nat} (h : sw = true → 2 ≤ m) : kf sw (m + 1) = kf sw m := by
  unfold kf
  cases sw with
  | false => rfl
  | true =>
    have h2 := h rfl
    have e1 : Nat.blt 1 (m + 1) = true := by rw [Nat.blt_eq]; omega
    have e2 : Nat.blt 1 m = true := by rw [Nat.blt_eq]; omega
    rw [e1, e2]
theorem stN_disj (lg : Nat → Nat) (f m : Nat) (hl : ∀ i, i < m → lg i < 64) (hd : Dst lg f m) (c : Nat) (h0 : mb (stN lg f 0 m) c = true) : mb (stN lg f 1 m) c = false := by
  apply bool_f
  intro h1
  obtain ⟨i, a1, a2, a3, a4⟩ := (mb_stN lg f 0 c m hl).1 h0
  obtain ⟨j, b1, b2, b3, b4⟩ := (mb_stN lg f 1 c m hl).1 h1
  rcases Nat.lt_trichotomy i j with q | q | q
  · exact hd i j a2 q b1 (by rw [a4, b4])
  · subst q; omega
  · exact hd j i b2 q a1 (by rw [a4, b4])

