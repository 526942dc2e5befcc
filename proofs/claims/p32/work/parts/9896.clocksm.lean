/-! clocks: the reference's calls -/
abbrev FW (I I' : Nat → Nat → Int32) (A A' : Nat → Nat → Int32) : Prop := (∀ i, i ≠ 39 → I' i = I i) ∧ (∀ p, p ≠ 13 → p ≠ 15 → p ≠ 16 → p ≠ 39 → I' 39 p = I 39 p) ∧ (∀ i, i ≠ 47 → i ≠ 48 → i ≠ 49 → A' i = A i)
theorem min_div {q u c : Nat} (h0 : 0 < c) (h : c ≤ u) : min (q + 1) (u / c) = min q ((u - c) / c) + 1 := by
  have : u / c = (u - c) / c + 1 := by
    have e : u = (u - c) + c := by omega
    conv => lhs; rw [e]
    exact Nat.add_div_right _ h0
  rw [this]
  omega
section
variable {K R C : Nat} {lg : Nat → Nat} {m : Nat} {sw : Bool} {ea : Nat} {tk : Bool} {se pe us : Nat → Nat} {lo : Nat} (k : Nat) (r : Nat → Nat → Value) (e : Nat) (I : Nat → Nat → Int32) (J : Nat → Nat → Int64) (A : Nat → Nat → Int32) (B : Nat → Nat → Int64)
theorem TM.th {x : Int32} (t : TM ea tk se pe us lo I A) : TM ea tk se pe us lo (mm_up I 39 39 x) A := ⟨fun z => by rw [mm_up_ne2 _ _ _ _ _ _ (by decide)]; exact t.1 z, by rw [mm_up_ne2 _ _ _ _ _ _ (by decide)]; exact t.2.1, by rw [mm_up_ne2 _ _ _ _ _ _ (by decide)]; exact t.2.2.1, t.2.2.2⟩
theorem th_ok {t : Nat} (h1 : 1 ≤ t) (h2 : t ≤ 600) : rgP (i32 t) 1 600 = true := by
  show rgP (i32 t) (i32 1) (i32 600) = true
  rw [rg_ok (by decide) (by decide) (by omega), decide_eq_true h1, decide_eq_true h2]; rfl
end
