/-! ladder: the reference's calls -/
section
variable {K R C : Nat} {lg : Nat → Nat} {m : Nat} {sw : Bool} {ea : Nat} {tk : Bool} {se pe us : Nat → Nat} {lo : Nat} {n : Nat} {ra : Nat → Int} {pl wo ls : Nat → Nat} {rc : Bool} (k : Nat) (r : Nat → Nat → Value) (e : Nat) (I : Nat → Nat → Int32) (J : Nat → Nat → Int64) (A : Nat → Nat → Int32) (B : Nat → Nat → Int64)
theorem LM.th {x : Int32} (h : LM n ra pl wo ls I A) : LM n ra pl wo ls (mm_up I 39 39 x) A := ⟨by rw [mm_up_ne2 _ _ _ _ _ _ (by decide)]; exact h.1, h.2⟩
end
