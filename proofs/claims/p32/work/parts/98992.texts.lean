/-! patterns: how a text fits -/
def alB (p : Nat → Bool) : Nat → Bool
  | 0 => true
  | n + 1 => alB p n && p n
def exB (p : Nat → Bool) : Nat → Bool
  | 0 => false
  | n + 1 => exB p n || p n
def fitT (t : Nat → Nat) (th : Nat → Nat) (s u : Nat) : Bool := alB (fun i => !decide (men (t (s + i)) &&& th ((i + u) % 6) = 0)) 6
def fxT (t : Nat → Nat) (n s : Nat) : Bool := decide (s + 6 < n) && decide (t (s + 6) = 33)
def fitF (t : Nat → Nat) (n : Nat) (th : Nat → Nat) : Nat → Nat → Bool
  | 0, _ => false
  | f + 1, s => if s < n then (exB (fitT t th s) (if fxT t n s = true then 1 else 6) || fitF t n th f (s + 6 + (if fxT t n s = true then 2 else 1))) else false
def thV (K R C : Nat) (own oth : Int64) (c d : Nat) : Nat := if bNx K R C c d = iN then 8 else if mb own (bNx K R C c d).toInt.toNat = true then 2 else if mb oth (bNx K R C c d).toInt.toNat = true then 4 else 1
def fitW (K R C : Nat) (t : Nat → Nat) (n : Nat) (own oth : Int64) (em : Int64) : Int64 := ms (fun c => mb em c && fitF t n (thV K R C own oth c) 5 0) (bN K R C)
theorem alB_t {p : Nat → Bool} : ∀ n, alB p n = true ↔ ∀ i, i < n → p i = true := by
  intro n
  induction n with
  | zero => exact ⟨fun _ i hi => absurd hi (Nat.not_lt_zero _), fun _ => rfl⟩
  | succ n ih =>
    have un : alB p (n + 1) = (alB p n && p n) := rfl
    rw [un, Bool.and_eq_true, ih]
    exact ⟨fun z i hi => by
      by_cases q : i = n
      · rw [q]; exact z.2
      · exact z.1 i (by omega), fun z => ⟨fun i hi => z i (by omega), z n (by omega)⟩⟩
theorem exB_t {p : Nat → Bool} : ∀ n, exB p n = true ↔ ∃ i, i < n ∧ p i = true := by
  intro n
  induction n with
  | zero => exact ⟨fun z => (by cases z), fun ⟨i, hi, _⟩ => absurd hi (Nat.not_lt_zero _)⟩
  | succ n ih =>
    have un : exB p (n + 1) = (exB p n || p n) := rfl
    rw [un, Bool.or_eq_true, ih]
    constructor
    · rintro (⟨i, h1, h2⟩ | h)
      · exact ⟨i, by omega, h2⟩
      · exact ⟨n, by omega, h⟩
    · rintro ⟨i, h1, h2⟩
      by_cases q : i = n
      · rw [q] at h2; exact Or.inr h2
      · exact Or.inl ⟨i, by omega, h2⟩
theorem alB_stop {p : Nat → Bool} {i n : Nat} (h : p i = false) (hi : i < n) : alB p n = false := by
  cases q : alB p n with
  | false => rfl
  | true => rw [(alB_t n).1 q i hi] at h; cases h
theorem exB_go {p : Nat → Bool} {i n : Nat} (h : p i = true) (hi : i < n) : exB p n = true := (exB_t n).2 ⟨i, hi, h⟩
theorem scn_one {t : Nat → Nat} {n i had : Nat} (hn : n ≤ 30) (hi : i < n) (h : scn t (n - i) i had = iN) : nhd had (t i) ≠ 99 ∧ scn t (n - (i + 1)) (i + 1) (nhd had (t i)) = iN := by
  have e : n - i = (n - (i + 1)) + 1 := by omega
  rw [e] at h
  have un : scn t ((n - (i + 1)) + 1) i had = if nhd had (t i) = 99 then i32 i else scn t (n - (i + 1)) (i + 1) (nhd had (t i)) := rfl
  rw [un] at h
  by_cases q : nhd had (t i) = 99
  · rw [if_pos q] at h
    exact ((iN_ne (a := i) (by omega)).1 h).elim
  · rw [if_neg q] at h
    exact ⟨q, h⟩
theorem scn_end {t : Nat → Nat} {n had : Nat} (hn : n ≤ 30) (h : scn t (n - n) n had = iN) : ¬ had < 6 := by
  intro q
  rw [Nat.sub_self] at h
  have un : scn t 0 n had = if had < 6 then i32 n else iN := rfl
  rw [un, if_pos q] at h
  exact (iN_ne (a := n) (by omega)).1 h
theorem scn_told {t : Nat → Nat} {n i had : Nat} (hn : n ≤ 30) (hi : i ≤ n) (hh : had < 6) (h : scn t (n - i) i had = iN) : i < n ∧ tol (t i) = true ∧ scn t (n - (i + 1)) (i + 1) (had + 1) = iN := by
  have lt : i < n := by
    by_cases q : i = n
    · subst q; exact absurd hh (scn_end hn h)
    · omega
  obtain ⟨a, b⟩ := scn_one hn lt h
  have un : nhd had (t i) = if tol (t i) = true then had + 1 else 99 := by unfold nhd; rw [if_pos hh]
  rw [un] at a b
  by_cases y : tol (t i) = true
  · rw [if_pos y] at b; exact ⟨lt, y, b⟩
  · rw [if_neg y] at a; exact absurd rfl a
theorem alt_step {t : Nat → Nat} {n s : Nat} (hn : n ≤ 30) (hs : s ≤ n) (h : scn t (n - s) s 0 = iN) : s + 6 ≤ n ∧ (∀ j, j < 6 → tol (t (s + j)) = true) ∧ (n = s + 6 ∨ (t (s + 6) = 124 ∧ s + 7 ≤ n ∧ scn t (n - (s + 7)) (s + 7) 0 = iN) ∨ (t (s + 6) = 33 ∧ s + 7 ≤ n ∧ (n = s + 7 ∨ (t (s + 7) = 124 ∧ s + 8 ≤ n ∧ scn t (n - (s + 8)) (s + 8) 0 = iN)))) := by
  obtain ⟨a0, b0, h1⟩ := scn_told hn hs (by decide) h
  obtain ⟨a1, b1, h2⟩ := scn_told hn (by omega) (by decide) h1
  obtain ⟨a2, b2, h3⟩ := scn_told hn (by omega) (by decide) h2
  obtain ⟨a3, b3, h4⟩ := scn_told hn (by omega) (by decide) h3
  obtain ⟨a4, b4, h5⟩ := scn_told hn (by omega) (by decide) h4
  obtain ⟨a5, b5, h6⟩ := scn_told hn (by omega) (by decide) h5
  have h6' : scn t (n - (s + 6)) (s + 6) 6 = iN := h6
  refine ⟨by omega, fun j hj => ?_, ?_⟩
  · have : j = 0 ∨ j = 1 ∨ j = 2 ∨ j = 3 ∨ j = 4 ∨ j = 5 := by omega
    rcases this with q | q | q | q | q | q <;> subst q
    · exact b0
    · exact b1
    · exact b2
    · exact b3
    · exact b4
    · exact b5
  · by_cases q : n = s + 6
    · exact Or.inl q
    · obtain ⟨c1, c2⟩ := scn_one hn (by omega) h6'
      have un : nhd 6 (t (s + 6)) = if t (s + 6) = 124 then 0 else if (6 = 6 ∧ t (s + 6) = 33) then 7 else 99 := by unfold nhd; rw [if_neg (by decide)]
      rw [un] at c1 c2
      by_cases y : t (s + 6) = 124
      · rw [if_pos y] at c2
        exact Or.inr (Or.inl ⟨y, by omega, c2⟩)
      · rw [if_neg y] at c1 c2
        by_cases x : t (s + 6) = 33
        · rw [if_pos ⟨rfl, x⟩] at c2
          refine Or.inr (Or.inr ⟨x, by omega, ?_⟩)
          by_cases w : n = s + 7
          · exact Or.inl w
          · obtain ⟨d1, d2⟩ := scn_one hn (show s + 6 + 1 < n by omega) c2
            have un2 : nhd 7 (t (s + 6 + 1)) = if t (s + 6 + 1) = 124 then 0 else if (7 = 6 ∧ t (s + 6 + 1) = 33) then 7 else 99 := by unfold nhd; rw [if_neg (by decide)]
            rw [un2] at d1 d2
            by_cases v : t (s + 6 + 1) = 124
            · rw [if_pos v] at d2
              exact Or.inr ⟨v, by omega, d2⟩
            · rw [if_neg v, if_neg (fun z => absurd z.1 (by decide))] at d1
              exact absurd rfl d1
        · rw [if_neg (fun z => x z.2)] at c1
          exact absurd rfl c1
theorem alt_next {t : Nat → Nat} {n s : Nat} (hn : n ≤ 30) (hs : s < n) (h : scn t (n - s) s 0 = iN) : s + 6 ≤ n ∧ (∀ j, j < 6 → tol (t (s + j)) = true) ∧ (s + 6 + (if fxT t n s = true then 2 else 1) < n → scn t (n - (s + 6 + (if fxT t n s = true then 2 else 1))) (s + 6 + (if fxT t n s = true then 2 else 1)) 0 = iN) ∧ (fxT t n s = true ↔ (s + 6 < n ∧ t (s + 6) = 33)) ∧ ¬ s + 6 + (if fxT t n s = true then 2 else 1) = n := by
  obtain ⟨a1, a2, a3⟩ := alt_step hn (by omega) h
  have fx : fxT t n s = true ↔ (s + 6 < n ∧ t (s + 6) = 33) := by unfold fxT; rw [Bool.and_eq_true, decide_eq_true_eq, decide_eq_true_eq]
  refine ⟨a1, a2, fun z => ?_, fx, fun z => ?_⟩
  · rcases a3 with q | ⟨q1, q2, q3⟩ | ⟨q1, q2, q3⟩
    · rw [if_neg (fun y => by have := (fx.1 y).1; omega)] at z; omega
    · rw [if_neg (fun y => by have := (fx.1 y).2; omega)]; exact q3
    · have f := fx.2 ⟨by omega, q1⟩
      rw [if_pos f] at z ⊢
      rcases q3 with q3 | ⟨_, _, q3⟩
      · omega
      · exact q3
  · rcases a3 with q | ⟨q1, q2, q3⟩ | ⟨q1, q2, q3⟩
    · rw [if_neg (fun y => by have := (fx.1 y).1; omega)] at z; omega
    · rw [if_neg (fun y => by have := (fx.1 y).2; omega)] at z
      rw [show s + 7 = n by omega] at q3
      exact scn_end hn q3 (by decide)
    · have f := fx.2 ⟨by omega, q1⟩
      rw [if_pos f] at z
      rcases q3 with q3 | ⟨_, _, q3⟩
      · omega
      · rw [show s + 8 = n by omega] at q3
        exact scn_end hn q3 (by decide)

