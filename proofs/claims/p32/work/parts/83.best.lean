/-! who wins by best play, as a number: 100 less the moves until one has joined, below 0 if it is not the one to move -/
def bk (x : Int) : Int := if 0 < x then 1 - x else -1 - x
def tp (p : Nat → Bool) (v : Nat → Int) : Nat → Int
  | 0 => -100
  | n + 1 => if p n = true then max (tp p v n) (v n) else tp p v n
theorem tp_t {p : Nat → Bool} {v : Nat → Int} {n : Nat} (h : p n = true) : tp p v (n + 1) = max (tp p v n) (v n) := if_pos h
theorem tp_f {p : Nat → Bool} {v : Nat → Int} {n : Nat} (h : p n = false) : tp p v (n + 1) = tp p v n := if_neg (by rw [h]; decide)
theorem tp_congr {p q : Nat → Bool} {v w : Nat → Int} {n : Nat} (h : ∀ c, c < n → p c = q c) (h2 : ∀ c, c < n → p c = true → v c = w c) : tp p v n = tp q w n := by
  induction n with
  | zero => rfl
  | succ n ih =>
    have i := ih (fun c hc => h c (by omega)) (fun c hc => h2 c (by omega))
    have a := h n (by omega)
    cases hp : p n with
    | true => rw [tp_t hp, tp_t (by rw [← a]; exact hp), i, h2 n (by omega) hp]
    | false => rw [tp_f hp, tp_f (by rw [← a]; exact hp), i]
theorem tp_mono {p : Nat → Bool} {v : Nat → Int} {k n : Nat} (h : k ≤ n) : tp p v k ≤ tp p v n := by
  induction n with
  | zero => rw [show k = 0 by omega]; exact Int.le_refl _
  | succ n ih =>
    by_cases q : k = n + 1
    · rw [q]; exact Int.le_refl _
    · have i := ih (by omega)
      cases hp : p n with
      | true => rw [tp_t hp]; exact Int.le_trans i (Int.le_max_left _ _)
      | false => rw [tp_f hp]; exact i
theorem tp_lo {p : Nat → Bool} {v : Nat → Int} {n : Nat} : -100 ≤ tp p v n := tp_mono (k := 0) (Nat.zero_le _)
theorem tp_ge {p : Nat → Bool} {v : Nat → Int} {n c : Nat} (hc : c < n) (hp : p c = true) : v c ≤ tp p v n := by
  have h : v c ≤ tp p v (c + 1) := by rw [tp_t hp]; exact Int.le_max_right _ _
  exact Int.le_trans h (tp_mono hc)
theorem tp_le {p : Nat → Bool} {v : Nat → Int} {n : Nat} {b : Int} (hb : -100 ≤ b) (h : ∀ c, c < n → p c = true → v c ≤ b) : tp p v n ≤ b := by
  induction n with
  | zero => exact hb
  | succ n ih =>
    have i := ih (fun c hc => h c (by omega))
    cases hp : p n with
    | true => rw [tp_t hp]; exact Int.max_le.2 ⟨i, h n (by omega) hp⟩
    | false => rw [tp_f hp]; exact i
theorem tp_att {p : Nat → Bool} {v : Nat → Int} {n : Nat} : tp p v n = -100 ∨ ∃ c, c < n ∧ p c = true ∧ tp p v n = v c := by
  induction n with
  | zero => exact Or.inl rfl
  | succ n ih =>
    cases hp : p n with
    | true =>
      rw [tp_t hp]
      rcases Int.le_total (tp p v n) (v n) with q | q
      · rw [Int.max_eq_right q]; exact Or.inr ⟨n, by omega, hp, rfl⟩
      · rw [Int.max_eq_left q]
        rcases ih with h | ⟨c, h1, h2, h3⟩
        · exact Or.inl h
        · exact Or.inr ⟨c, by omega, h2, h3⟩
    | false =>
      rw [tp_f hp]
      rcases ih with h | ⟨c, h1, h2, h3⟩
      · exact Or.inl h
      · exact Or.inr ⟨c, by omega, h2, h3⟩
theorem tp_stop {p : Nat → Bool} {v : Nat → Int} {k n : Nat} (hk : k ≤ n) (ha : 97 ≤ tp p v k) (h2 : ∀ l, k ≤ l → l < n → p l = true → ∀ c, c < n → p c = true → v c ≤ 97) : tp p v n = tp p v k := by
  by_cases q : ∃ l, k ≤ l ∧ l < n ∧ p l = true
  · obtain ⟨l, l1, l2, l3⟩ := q
    have a := tp_le (p := p) (v := v) (n := n) (b := 97) (by decide) (h2 l l1 l2 l3)
    have b := tp_mono (p := p) (v := v) hk
    omega
  · have : ∀ m, k ≤ m → m ≤ n → tp p v m = tp p v k := by
      intro m
      induction m with
      | zero => intro h _; rw [show k = 0 by omega]
      | succ m ih =>
        intro h1 h3
        by_cases e : k = m + 1
        · rw [e]
        · have hp : p m = false := bool_f (fun z => q ⟨m, by omega, by omega, z⟩)
          rw [tp_f hp]; exact ih (by omega) (by omega)
    exact this n hk (Nat.le_refl _)
theorem tp_gap {E : Int64} {p : Nat → Bool} {v : Nat → Int} (hp : ∀ c, p c = true → mb E c = true) : ∀ c, c ≤ 36 → tp p v c = tp (fun k => p (gc E k)) (fun k => v (gc E k)) (cf (mb E) c) := by
  intro c
  induction c with
  | zero => intro _; rfl
  | succ c ih =>
    intro h
    have i := ih (by omega)
    cases hm : mb E c with
    | true =>
      have g := (gc_of (show c < 36 by omega) hm).2
      rw [cf_s hm]
      cases hq : p c with
      | true => rw [tp_t hq, tp_t (by rw [g]; exact hq), i, g]
      | false => rw [tp_f hq, tp_f (by rw [g]; exact hq), i]
    | false =>
      have hq : p c = false := bool_f (fun z => by rw [hp c z] at hm; cases hm)
      rw [cf_s0 hm, tp_f hq, i]
theorem bk_bd {x : Int} (h1 : -100 ≤ x) (h2 : x ≤ 100) : -99 ≤ bk x ∧ bk x ≤ 99 := by
  unfold bk
  split <;> omega
def pt (t p c : Nat) (s : Int64) : Int64 := if t = p then s ||| mbit c else s
def sg (t p : Nat) : Int := if t = p then 100 else -100
def fre (N : Nat) (s0 s1 : Int64) (c : Nat) : Bool := Nat.blt c N && !mb s0 c && !mb s1 c
noncomputable def Sc (K R C : Nat) : Nat → Nat → Int64 → Int64 → Int
  | 0, t, s0, s1 => if jnB K R C 0 s0 = true then sg t 0 else if jnB K R C 1 s1 = true then sg t 1 else -100
  | f + 1, t, s0, s1 => if jnB K R C 0 s0 = true then sg t 0 else if jnB K R C 1 s1 = true then sg t 1 else tp (fre (bN K R C) s0 s1) (fun c => bk (Sc K R C f (1 - t) (pt t 0 c s0) (pt t 1 c s1))) 36
noncomputable def SR (K R C f t : Nat) (x y : Int64) : Int := if t = 0 then Sc K R C f 0 x y else Sc K R C f 1 y x
section
variable {K R C : Nat}
theorem sg_bd (t p : Nat) : sg t p = 100 ∨ sg t p = -100 := by
  unfold sg
  split
  · exact Or.inl rfl
  · exact Or.inr rfl
theorem Sc_bd : ∀ f t s0 s1, -100 ≤ Sc K R C f t s0 s1 ∧ Sc K R C f t s0 s1 ≤ 100 := by
  intro f
  induction f with
  | zero =>
    intro t s0 s1
    unfold Sc
    split
    · rcases sg_bd t 0 with q | q <;> omega
    · split
      · rcases sg_bd t 1 with q | q <;> omega
      · decide
  | succ f ih =>
    intro t s0 s1
    unfold Sc
    split
    · rcases sg_bd t 0 with q | q <;> omega
    · split
      · rcases sg_bd t 1 with q | q <;> omega
      · refine ⟨tp_lo, tp_le (by decide) (fun c _ _ => ?_)⟩
        have i := ih (1 - t) (pt t 0 c s0) (pt t 1 c s1)
        have := bk_bd i.1 i.2
        omega
theorem SR_bd (f t : Nat) (x y : Int64) : -100 ≤ SR K R C f t x y ∧ SR K R C f t x y ≤ 100 := by
  unfold SR
  split
  · exact Sc_bd _ _ _ _
  · exact Sc_bd _ _ _ _
theorem Sc_abs : ∀ (f t : Nat) (s0 s1 : Int64), (100 - (f : Int) ≤ Sc K R C f t s0 s1 ∨ Sc K R C f t s0 s1 ≤ (f : Int) - 100) := by
  intro f
  induction f with
  | zero =>
    intro t s0 s1
    unfold Sc
    split
    · rcases sg_bd t 0 with q | q <;> omega
    · split
      · rcases sg_bd t 1 with q | q <;> omega
      · right; decide
  | succ f ih =>
    intro t s0 s1
    unfold Sc
    split
    · rcases sg_bd t 0 with q | q <;> omega
    · split
      · rcases sg_bd t 1 with q | q <;> omega
      · rcases tp_att (p := fre (bN K R C) s0 s1) (v := fun c => bk (Sc K R C f (1 - t) (pt t 0 c s0) (pt t 1 c s1))) (n := 36) with h | ⟨c, h1, h2, h3⟩
        · omega
        · have h4 : tp (fre (bN K R C) s0 s1) (fun c => bk (Sc K R C f (1 - t) (pt t 0 c s0) (pt t 1 c s1))) 36 = bk (Sc K R C f (1 - t) (pt t 0 c s0) (pt t 1 c s1)) := h3
          rw [h4]
          have i := ih (1 - t) (pt t 0 c s0) (pt t 1 c s1)
          have b := Sc_bd (K := K) (R := R) (C := C) f (1 - t) (pt t 0 c s0) (pt t 1 c s1)
          unfold bk
          split <;> omega
theorem fre_comm (N : Nat) (x y : Int64) : fre N x y = fre N y x := by
  funext c
  unfold fre
  cases Nat.blt c N <;> cases mb x c <;> cases mb y c <;> rfl
theorem SR_t0 (f : Nat) (x y : Int64) : SR K R C f 0 x y = Sc K R C f 0 x y := by
  unfold SR
  rw [if_pos rfl]
theorem SR_t1 (f : Nat) (x y : Int64) : SR K R C f 1 x y = Sc K R C f 1 y x := by
  unfold SR
  rw [if_neg (by decide)]
theorem SR_nj {f t : Nat} {x y : Int64} (ht : t < 2) (h1 : jnB K R C t x = false) (h2 : jnB K R C (1 - t) y = false) : SR K R C (f + 1) t x y = tp (fre (bN K R C) x y) (fun c => bk (SR K R C f (1 - t) y (x ||| mbit c))) 36 := by
  have : t = 0 ∨ t = 1 := by omega
  rcases this with q | q
  · subst q
    have e1 : ¬ jnB K R C 0 x = true := by rw [h1]; decide
    have e2 : ¬ jnB K R C 1 y = true := by
      have : jnB K R C 1 y = false := h2
      rw [this]; decide
    rw [SR_t0]
    unfold Sc
    rw [if_neg e1, if_neg e2]
    refine tp_congr (fun _ _ => rfl) (fun c _ _ => ?_)
    show bk (Sc K R C f 1 (pt 0 0 c x) (pt 0 1 c y)) = bk (SR K R C f 1 y (x ||| mbit c))
    rw [SR_t1]
    rfl
  · subst q
    have e1 : ¬ jnB K R C 1 x = true := by rw [h1]; decide
    have e2 : ¬ jnB K R C 0 y = true := by
      have : jnB K R C 0 y = false := h2
      rw [this]; decide
    rw [SR_t1]
    unfold Sc
    rw [if_neg e2, if_neg e1, fre_comm]
    refine tp_congr (fun _ _ => rfl) (fun c _ _ => ?_)
    show bk (Sc K R C f 0 (pt 1 0 c y) (pt 1 1 c x)) = bk (SR K R C f 0 y (x ||| mbit c))
    rw [SR_t0]
    rfl
theorem SR_0 {t : Nat} {x y : Int64} (ht : t < 2) (h1 : jnB K R C t x = false) (h2 : jnB K R C (1 - t) y = false) : SR K R C 0 t x y = -100 := by
  have : t = 0 ∨ t = 1 := by omega
  rcases this with q | q
  · subst q
    have e1 : ¬ jnB K R C 0 x = true := by rw [h1]; decide
    have e2 : ¬ jnB K R C 1 y = true := by
      have : jnB K R C 1 y = false := h2
      rw [this]; decide
    rw [SR_t0]
    unfold Sc
    rw [if_neg e1, if_neg e2]
  · subst q
    have e1 : ¬ jnB K R C 1 x = true := by rw [h1]; decide
    have e2 : ¬ jnB K R C 0 y = true := by
      have : jnB K R C 0 y = false := h2
      rw [this]; decide
    rw [SR_t1]
    unfold Sc
    rw [if_neg e2, if_neg e1]
theorem SR_j {f t : Nat} {x y : Int64} (ht : t < 2) (h1 : jnB K R C t x = false) (h2 : jnB K R C (1 - t) y = true) : SR K R C f t x y = -100 := by
  have : t = 0 ∨ t = 1 := by omega
  rcases this with q | q
  · subst q
    rw [SR_t0]
    have e1 : ¬ jnB K R C 0 x = true := by rw [h1]; decide
    have e2 : jnB K R C 1 y = true := h2
    cases f with
    | zero => unfold Sc; rw [if_neg e1, if_pos e2]; rfl
    | succ f => unfold Sc; rw [if_neg e1, if_pos e2]; rfl
  · subst q
    rw [SR_t1]
    have e2 : jnB K R C 0 y = true := h2
    cases f with
    | zero => unfold Sc; rw [if_pos e2]; rfl
    | succ f => unfold Sc; rw [if_pos e2]; rfl
theorem SR_99 {f t : Nat} {x y : Int64} (ht : t < 2) (h1 : jnB K R C t x = false) (h2 : jnB K R C (1 - t) y = false) : SR K R C f t x y ≤ 99 := by
  cases f with
  | zero => rw [SR_0 ht h1 h2]; decide
  | succ f =>
    rw [SR_nj ht h1 h2]
    refine tp_le (by decide) (fun c _ _ => ?_)
    have i := SR_bd (K := K) (R := R) (C := C) f (1 - t) y (x ||| mbit c)
    exact (bk_bd i.1 i.2).2
/-- who can't join at once wins with the third move at best, where two cells or more are free -/
theorem SR_cut {f t d : Nat} {x y : Int64} (ht : t < 2) (h1 : jnB K R C t x = false) (h2 : jnB K R C (1 - t) y = false) (hd : d < 36) (hf : fre (bN K R C) x y d = true) : bk (SR K R C (f + 1) (1 - t) y x) ≤ 97 := by
  have tt : 1 - (1 - t) = t := by omega
  have s : -98 ≤ SR K R C (f + 1) (1 - t) y x := by
    rw [SR_nj (by omega) h2 (by rw [tt]; exact h1), tt, fre_comm]
    refine Int.le_trans ?_ (tp_ge hd hf)
    cases hj : jnB K R C (1 - t) (y ||| mbit d) with
    | true => rw [SR_j ht h1 hj]; decide
    | false =>
      have := SR_99 (f := f) ht h1 hj
      unfold bk
      split <;> omega
  unfold bk
  split <;> omega
end
