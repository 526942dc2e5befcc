/-! how far it is in the reference: from one side -/
theorem nb_dir {K R C c t : Nat} (v : bV K R C = true) (ht : t < bN K R C) : mb (bNb K R C c) t = true ↔ ∃ d, d < 6 ∧ bNx K R C c d = i32 t := by
  have hN := bN_le v
  unfold bNb
  rw [mb_ms _ _ _ (by omega), decide_eq_true ht, Bool.true_and]
  unfold bBe
  rw [Bool.or_eq_true, Bool.or_eq_true, Bool.or_eq_true, Bool.or_eq_true, Bool.or_eq_true, decide_eq_true_eq, decide_eq_true_eq, decide_eq_true_eq, decide_eq_true_eq, decide_eq_true_eq, decide_eq_true_eq]
  constructor
  · rintro (((((h | h) | h) | h) | h) | h)
    · exact ⟨0, by decide, h⟩
    · exact ⟨1, by decide, h⟩
    · exact ⟨2, by decide, h⟩
    · exact ⟨3, by decide, h⟩
    · exact ⟨4, by decide, h⟩
    · exact ⟨5, by decide, h⟩
  · rintro ⟨d, hd, h⟩
    have : d = 0 ∨ d = 1 ∨ d = 2 ∨ d = 3 ∨ d = 4 ∨ d = 5 := by omega
    rcases this with q | q | q | q | q | q <;> subst q
    · exact Or.inl (Or.inl (Or.inl (Or.inl (Or.inl h))))
    · exact Or.inl (Or.inl (Or.inl (Or.inl (Or.inr h))))
    · exact Or.inl (Or.inl (Or.inl (Or.inr h)))
    · exact Or.inl (Or.inl (Or.inr h))
    · exact Or.inl (Or.inr h)
    · exact Or.inr h
theorem nb_sym {K R C c d : Nat} (v : bV K R C = true) (hc : c < bN K R C) (hd : d < bN K R C) (h : mb (bNb K R C c) d = true) : mb (bNb K R C d) c = true := by
  have hN := bN_le v
  have s := all2_of (bAll_of b_sym v) hc hd
  unfold bNb at h ⊢
  rw [mb_ms _ _ _ (by omega)] at h ⊢
  rw [decide_eq_true hd, Bool.true_and] at h
  rw [decide_eq_true hc, Bool.true_and, ← beq_iff_eq.1 s]
  exact h
/-- the least on the cells around, in the first directions -/
def lsF (K R C : Nat) (f : Nat → Nat) (c : Nat) (b : Bool) : Nat → Nat
  | 0 => if b = true then 0 else 1000
  | d + 1 => if bNx K R C c d = iN then lsF K R C f c b d else if f (bNx K R C c d).toInt.toNat < lsF K R C f c b d then f (bNx K R C c d).toInt.toNat else lsF K R C f c b d
theorem lsF_le {K R C : Nat} {f : Nat → Nat} {c : Nat} {b : Bool} : ∀ d, lsF K R C f c b d ≤ (if b = true then 0 else 1000) := by
  intro d
  induction d with
  | zero => exact Nat.le_refl _
  | succ d ih =>
    show (if bNx K R C c d = iN then lsF K R C f c b d else if f (bNx K R C c d).toInt.toNat < lsF K R C f c b d then f (bNx K R C c d).toInt.toNat else lsF K R C f c b d) ≤ _
    split
    · exact ih
    · split
      · omega
      · exact ih
theorem lsF_nb {K R C : Nat} (v : bV K R C = true) {f : Nat → Nat} {c : Nat} {b : Bool} : ∀ d i, i < d → ∀ t, t < bN K R C → bNx K R C c i = i32 t → lsF K R C f c b d ≤ f t := by
  have hN := bN_le v
  intro d
  induction d with
  | zero => intro i hi; omega
  | succ d ih =>
    intro i hi t ht h
    show (if bNx K R C c d = iN then lsF K R C f c b d else if f (bNx K R C c d).toInt.toNat < lsF K R C f c b d then f (bNx K R C c d).toInt.toNat else lsF K R C f c b d) ≤ _
    by_cases q : i = d
    · subst q
      rw [h, if_neg (fun z => (iN_ne (a := t) (by omega)).1 z), i32_ix (by omega)]
      split <;> omega
    · have := ih i (by omega) t ht h
      split
      · exact this
      · split
        · omega
        · exact this
theorem lsF_at {K R C : Nat} (v : bV K R C = true) {f : Nat → Nat} {c : Nat} (hc : c < bN K R C) {b : Bool} : ∀ d, d ≤ 6 → (lsF K R C f c b d = (if b = true then 0 else 1000) ∨ ∃ t, t < bN K R C ∧ mb (bNb K R C c) t = true ∧ lsF K R C f c b d = f t) := by
  have hN := bN_le v
  intro d
  induction d with
  | zero => intro _; exact Or.inl rfl
  | succ d ih =>
    intro hd
    have un : lsF K R C f c b (d + 1) = (if bNx K R C c d = iN then lsF K R C f c b d else if f (bNx K R C c d).toInt.toNat < lsF K R C f c b d then f (bNx K R C c d).toInt.toNat else lsF K R C f c b d) := rfl
    rw [un]
    rcases b_nxc v hc (show d < 6 by omega) with q | ⟨m, m1, m2⟩
    · rw [if_pos q]; exact ih (by omega)
    · rw [m1, if_neg (fun z => (iN_ne (a := m) (by omega)).1 z), i32_ix (by omega)]
      split
      · exact Or.inr ⟨m, m2, (nb_dir v m2).2 ⟨d, by omega, m1⟩, rfl⟩
      · exact ih (by omega)
def itF (own oth : Int64) (c : Nat) : Nat := if mb own c = true then 0 else if mb oth c = true then 1000 else 1
def nwF (K R C : Nat) (f : Nat → Nat) (a own oth : Int64) (c : Nat) : Nat := if lsF K R C f c (mb a c) 6 + itF own oth c < f c then lsF K R C f c (mb a c) 6 + itF own oth c else f c
section
variable {K R C : Nat} (k : Nat) (r : Nat → Nat → Value) (e : Nat) (I : Nat → Nat → Int32) (J : Nat → Nat → Int64) (B : Nat → Nat → Int64)
end
