/-! move: reference -/
abbrev FU (I I' : Nat → Nat → Int32) (A A' : Nat → Nat → Int32) (B B' : Nat → Nat → Int64) : Prop := (∀ i, i ≠ 39 → I' i = I i) ∧ (∀ p, p ≠ 10 → p ≠ 12 → p ≠ 39 → I' 39 p = I 39 p) ∧ (∀ i, i ≠ 46 → i ≠ 49 → A' i = A i) ∧ (∀ i, i ≠ 45 → B' i = B i)
section
variable {K R C : Nat} {lg : Nat → Nat} {m : Nat} {sw : Bool} {ea : Nat} {tk : Bool} {se pe us : Nat → Nat} {lo : Nat} (k : Nat) (r : Nat → Nat → Value) (e : Nat) (I : Nat → Nat → Int32) (J : Nat → Nat → Int64) (A : Nat → Nat → Int32) (B : Nat → Nat → Int64)
theorem TM.give (t : TM ea tk se pe us lo I A) {p : Nat} {I' A' : Nat → Nat → Int32} (h13 : I' 39 13 = I 39 13) (h15 : I' 39 15 = I 39 15) (h16 : I' 39 16 = I 39 16) (h31 : A' 47 = A 47) (h32 : A' 48 = A 48) (h33 : A' 49 = mm_up A 49 p (i32 0) 49) : TM ea tk se pe (upN us p 0) lo I' A' := by
  refine ⟨fun z => by rw [h16]; exact t.1 z, by rw [h15]; exact t.2.1, by rw [h13]; exact t.2.2.1, fun q hq => ?_⟩
  have g := t.2.2.2 q hq
  rw [h31, h32, h33]
  unfold upN
  by_cases y : q = p
  · subst y; rw [mm_up_eq, if_pos rfl]; exact ⟨g.1, g.2.1, rfl⟩
  · rw [mm_up_ne2 _ _ _ _ _ _ y, if_neg y]; exact g
end
