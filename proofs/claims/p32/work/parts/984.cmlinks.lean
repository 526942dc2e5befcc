/-! links in the reference: calls -/
section
variable {K R C : Nat} {lg : Nat → Nat} {m : Nat} {sw : Bool} (k : Nat) (r : Nat → Nat → Value) (e : Nat) (I : Nat → Nat → Int32) (J : Nat → Nat → Int64) (B : Nat → Nat → Int64)
def FnC (T : Nat → Prop) (n : Nat) (x : Int32) : Prop := (x = iN ∧ ∀ s, s < 2 ^ n → ¬ LH T n 0 s) ∨ (∃ c, MinC T n c ∧ x = i32 c)
end
