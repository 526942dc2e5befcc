/-! patterns: how they fit, reference -/
abbrev PM (pn : Nat) (ln : Nat → Nat) (tx : Nat → Nat → Nat) (I : Nat → Nat → Int32) (A : Nat → Nat → Int32) : Prop := I 39 28 = i32 pn ∧ pn ≤ 6 ∧ (∀ p, p < pn → A 57 p = i32 (ln p) ∧ ∀ i, i < ln p → A 56 (30 * p + i) = i32 (tx p i))
abbrev PB (pn : Nat) (ln : Nat → Nat) (tx : Nat → Nat → Nat) : Prop := ∀ p, p < pn → ln p ≤ 30 ∧ scn (tx p) (ln p) 0 0 = iN
theorem tol_cases {c : Nat} (h : tol c = true) : c = 46 ∨ c = 111 ∨ c = 120 ∨ c = 35 ∨ c = 42 := by
  unfold tol at h
  exact of_decide_eq_true h
section
variable {K R C : Nat} {lg : Nat → Nat} {m : Nat} {sw : Bool} {pn : Nat} {ln : Nat → Nat} {tx : Nat → Nat → Nat} (k : Nat) (r : Nat → Nat → Value) (e : Nat) (I : Nat → Nat → Int32) (J : Nat → Nat → Int64) (A : Nat → Nat → Int32) (B : Nat → Nat → Int64)
theorem PM.th {x : Int32} (h : PM pn ln tx I A) : PM pn ln tx (mm_up I 39 39 x) A := ⟨by rw [mm_up_ne2 _ _ _ _ _ _ (by decide)]; exact h.1, h.2⟩
end
