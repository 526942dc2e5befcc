/-! fillings by number: their digits -/
theorem dg_lt (c j : Nat) : dg c j < 3 := Nat.mod_lt _ (by decide)
theorem q_gt {c k d j : Nat} (h0 : dg c k = 0) (hd : d < 3) (hj : k < j) : (c + 3 ^ k * d) / 3 ^ j = c / 3 ^ j := by
  obtain ⟨i, rfl⟩ : ∃ i, j = k + 1 + i := ⟨j - (k + 1), by omega⟩
  have p : 0 < 3 ^ k := Nat.pow_pos (by decide)
  rw [Nat.pow_add, Nat.pow_succ, ← Nat.div_div_eq_div_mul, ← Nat.div_div_eq_div_mul, ← Nat.div_div_eq_div_mul, ← Nat.div_div_eq_div_mul, Nat.add_mul_div_left _ _ p]
  unfold dg at h0
  congr 1
  generalize c / 3 ^ k = q at h0 ⊢
  omega
theorem dg_put {c k d : Nat} (h0 : dg c k = 0) (hd : d < 3) (j : Nat) : dg (c + 3 ^ k * d) j = if j = k then d else dg c j := by
  have p : 0 < 3 ^ k := Nat.pow_pos (by decide)
  rcases Nat.lt_trichotomy j k with q | q | q
  · rw [if_neg (by omega)]
    unfold dg
    obtain ⟨i, rfl⟩ : ∃ i, k = j + (i + 1) := ⟨k - j - 1, by omega⟩
    have p2 : 0 < 3 ^ j := Nat.pow_pos (by decide)
    rw [Nat.pow_add, Nat.mul_assoc, Nat.add_mul_div_left _ _ p2, Nat.pow_succ, Nat.mul_comm (3 ^ i) 3, Nat.mul_assoc, Nat.add_mul_mod_self_left]
  · subst q
    rw [if_pos rfl]
    unfold dg at h0 ⊢
    rw [Nat.add_mul_div_left _ _ p]
    generalize c / 3 ^ j = q at h0 ⊢
    omega
  · rw [if_neg (by omega)]
    unfold dg
    rw [q_gt h0 hd q]
theorem put_lt {c k d n : Nat} (h0 : dg c k = 0) (hd : d < 3) (hk : k < n) (hc : c < 3 ^ n) : c + 3 ^ k * d < 3 ^ n := by
  have h := q_gt h0 hd hk
  rw [Nat.div_eq_of_lt hc] at h
  exact (Nat.div_eq_zero_iff.1 h).resolve_left (by have : 0 < 3 ^ n := Nat.pow_pos (by decide); omega)
/-- how many gaps have a digit -/
def dn3 (n c d : Nat) : Nat := cf (fun j => decide (dg c j = d)) n
theorem dn3_put {n c k d d' : Nat} (h0 : dg c k = 0) (hd : d < 3) (h1 : 0 < d) (hk : k < n) (hd' : 0 < d') : dn3 n (c + 3 ^ k * d) d' = dn3 n c d' + (if d' = d then 1 else 0) := by
  unfold dn3
  by_cases q : d' = d
  · subst q
    rw [if_pos rfl]
    refine cf_add hk (decide_eq_false (by omega)) (decide_eq_true (by rw [dg_put h0 hd, if_pos rfl])) (fun c' hc' => ?_)
    show decide _ = decide _
    rw [dg_put h0 hd, if_neg hc']
  · rw [if_neg q]
    refine cf_congr (fun c' _ => ?_)
    rw [dg_put h0 hd]
    by_cases e : c' = k
    · subst e; rw [if_pos rfl, decide_eq_false (by omega), decide_eq_false (by omega)]
    · rw [if_neg e]
theorem dn3_sum (c : Nat) : ∀ n, dn3 n c 0 + dn3 n c 1 + dn3 n c 2 = n := by
  intro n
  induction n with
  | zero => rfl
  | succ n ih =>
    have hl := dg_lt c n
    have : ∀ d, dn3 (n + 1) c d = dn3 n c d + (decide (dg c n = d)).toNat := fun d => rfl
    rw [this, this, this]
    have hd : dg c n = 0 ∨ dg c n = 1 ∨ dg c n = 2 := by omega
    rcases hd with q | q | q <;> (rw [q]; simp; omega)
theorem mb_fl {E : Int64} {a d : Nat} (c : Nat) : ∀ n, n ≤ gn E → (mb (fl E a d n) c = true ↔ ∃ k, k < n ∧ dg a k = d ∧ gc E k = c) := by
  intro n
  induction n with
  | zero =>
    intro _
    show mb 0 c = true ↔ _
    rw [mb_zero]
    exact ⟨fun h => Bool.noConfusion h, fun ⟨k, h, _⟩ => absurd h (Nat.not_lt_zero _)⟩
  | succ n ih =>
    intro h
    have g := gc_spec (E := E) (k := n) (by omega)
    show mb (fl E a d n ||| _) c = true ↔ _
    rw [mb_or, Bool.or_eq_true, ih (by omega)]
    constructor
    · rintro (⟨k, h1, h2, h3⟩ | q)
      · exact ⟨k, by omega, h2, h3⟩
      · by_cases t : dg a n = d
        · rw [if_pos t, mb_bit _ _ (by omega), decide_eq_true_eq] at q
          exact ⟨n, by omega, t, q⟩
        · rw [if_neg t, mb_zero] at q; cases q
    · rintro ⟨k, h1, h2, h3⟩
      by_cases q : k = n
      · subst q
        right
        rw [if_pos h2, mb_bit _ _ (by omega), decide_eq_true_eq]; exact h3
      · exact Or.inl ⟨k, by omega, h2, h3⟩
theorem mb_flg {E : Int64} {a d k : Nat} (hk : k < gn E) : mb (fl E a d (gn E)) (gc E k) = decide (dg a k = d) := by
  rw [Bool.eq_iff_iff, mb_fl _ _ (Nat.le_refl _), decide_eq_true_eq]
  constructor
  · rintro ⟨j, h1, h2, h3⟩
    rw [← gc_inj h1 hk h3]; exact h2
  · intro h; exact ⟨k, hk, h, rfl⟩
theorem fl_put {E : Int64} {c k d d' : Nat} (h0 : dg c k = 0) (hd : d < 3) (h1 : 0 < d) (hk : k < gn E) (hd' : 0 < d') : fl E (c + 3 ^ k * d) d' (gn E) = if d' = d then fl E c d' (gn E) ||| mbit (gc E k) else fl E c d' (gn E) := by
  have g := gc_spec hk
  apply mb_ext
  intro x _
  rw [Bool.eq_iff_iff, mb_fl _ _ (Nat.le_refl _)]
  by_cases q : d' = d
  · subst q
    rw [if_pos rfl, mb_or, Bool.or_eq_true, mb_fl _ _ (Nat.le_refl _), mb_bit _ _ (by omega), decide_eq_true_eq]
    constructor
    · rintro ⟨j, j1, j2, j3⟩
      rw [dg_put h0 hd] at j2
      by_cases e : j = k
      · subst e; exact Or.inr j3
      · rw [if_neg e] at j2; exact Or.inl ⟨j, j1, j2, j3⟩
    · rintro (⟨j, j1, j2, j3⟩ | e)
      · refine ⟨j, j1, ?_, j3⟩
        rw [dg_put h0 hd]
        by_cases e : j = k
        · subst e; omega
        · rw [if_neg e]; exact j2
      · exact ⟨k, hk, by rw [dg_put h0 hd, if_pos rfl], e⟩
  · rw [if_neg q, mb_fl _ _ (Nat.le_refl _)]
    constructor
    · rintro ⟨j, j1, j2, j3⟩
      rw [dg_put h0 hd] at j2
      by_cases e : j = k
      · subst e; rw [if_pos rfl] at j2; omega
      · rw [if_neg e] at j2; exact ⟨j, j1, j2, j3⟩
    · rintro ⟨j, j1, j2, j3⟩
      refine ⟨j, j1, ?_, j3⟩
      rw [dg_put h0 hd]
      by_cases e : j = k
      · subst e; omega
      · rw [if_neg e]; exact j2
theorem fre_dg {N : Nat} {E s0 s1 : Int64} (hE : EH N E s0 s1) {c k : Nat} (hk : k < gn E) : fre N (s0 ||| fl E c 1 (gn E)) (s1 ||| fl E c 2 (gn E)) (gc E k) = decide (dg c k = 0) := by
  have g := (hE _).1 (gc_spec hk).2.1
  unfold fre
  have : Nat.blt (gc E k) N = true := by rw [Nat.blt_eq]; exact g.1
  rw [this, mb_or, mb_or, g.2.1, g.2.2, mb_flg hk, mb_flg hk]
  have hl := dg_lt c k
  have hd : dg c k = 0 ∨ dg c k = 1 ∨ dg c k = 2 := by omega
  rcases hd with q | q | q <;> (rw [q]; rfl)
/-- who is to move in a filling that comes by moves in turn, or 2 -/
def tnF (n tu c : Nat) : Nat := if dn3 n c (tu + 1) = dn3 n c (2 - tu) then tu else if dn3 n c (tu + 1) = dn3 n c (2 - tu) + 1 then 1 - tu else 2
theorem tnF_put {n tu c k : Nat} (ht : tu < 2) (h0 : dg c k = 0) (hk : k < n) (h : tnF n tu c < 2) : tnF n tu (c + 3 ^ k * (tnF n tu c + 1)) = 1 - tnF n tu c := by
  have e1 := dn3_put (n := n) (k := k) (d := tnF n tu c + 1) (d' := tu + 1) h0 (by omega) (by omega) hk (by omega)
  have e2 := dn3_put (n := n) (k := k) (d := tnF n tu c + 1) (d' := 2 - tu) h0 (by omega) (by omega) hk (by omega)
  generalize hX : c + 3 ^ k * (tnF n tu c + 1) = X at e1 e2 ⊢
  have hu : tnF n tu c = (if dn3 n c (tu + 1) = dn3 n c (2 - tu) then tu else if dn3 n c (tu + 1) = dn3 n c (2 - tu) + 1 then 1 - tu else 2) := rfl
  by_cases q1 : dn3 n c (tu + 1) = dn3 n c (2 - tu)
  · rw [if_pos q1] at hu
    rw [hu] at e1 e2 ⊢
    rw [if_pos rfl] at e1
    rw [if_neg (by omega)] at e2
    unfold tnF
    rw [if_neg (by omega), if_pos (by omega)]
  · rw [if_neg q1] at hu
    by_cases q2 : dn3 n c (tu + 1) = dn3 n c (2 - tu) + 1
    · rw [if_pos q2] at hu
      rw [hu] at e1 e2 ⊢
      rw [if_neg (by omega)] at e1
      rw [if_pos (by omega)] at e2
      unfold tnF
      rw [if_pos (by omega)]
      omega
    · rw [if_neg q2] at hu; omega

