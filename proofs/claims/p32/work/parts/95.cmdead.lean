/-! dead cells, reference; moves that gave a win away -/
theorem shr_tab : ∀ a : Fin 512, ∀ k : Fin 9, ((i32 a.1 >>> (i32 k.1 &&& i32 31)) &&& i32 1) = if a.1.testBit k.1 = true then i32 1 else i32 0 := by decide +kernel
theorem shr_bit {a k : Nat} (ha : a < 512) (hk : k < 9) : ((i32 a >>> (i32 k &&& i32 31)) &&& i32 1) = if a.testBit k = true then i32 1 else i32 0 := shr_tab ⟨a, ha⟩ ⟨k, hk⟩
theorem i32_xor (a b : Nat) : i32 a ^^^ i32 b = i32 (a ^^^ b) := by
  apply Int32.toBitVec_inj.1
  apply BitVec.eq_of_toNat_eq
  show ((BitVec.ofNat 32 a) ^^^ (BitVec.ofNat 32 b)).toNat = (BitVec.ofNat 32 (a ^^^ b)).toNat
  rw [BitVec.toNat_xor, BitVec.toNat_ofNat, BitVec.toNat_ofNat, BitVec.toNat_ofNat, Nat.xor_mod_two_pow]
theorem testBit_lt {u g n : Nat} (h : u < 2 ^ n) (hb : u.testBit g = true) : g < n := by
  rcases Nat.lt_or_ge g n with q | q
  · exact q
  · rw [Nat.testBit_lt_two_pow (Nat.lt_of_lt_of_le h (Nat.pow_le_pow_right (by decide) q))] at hb; cases hb
/-- nothing changes by any filling's cell: two ways to say it -/
theorem Qd_xor {K R C : Nat} {E s0 : Int64} {n g : Nat} (hg : g < n) : (∀ u, u < 2 ^ n → ¬ Qd K R C E s0 u g) ↔ (∀ u, u < 2 ^ n → jnB K R C 0 (s0 ||| spr E u (gn E)) = jnB K R C 0 (s0 ||| spr E (u ^^^ 2 ^ g) (gn E))) := by
  have pg : 2 ^ g < 2 ^ n := Nat.pow_lt_pow_right (by decide) hg
  have xo : ∀ u, u.testBit g = false → u ^^^ 2 ^ g = u ||| 2 ^ g := by
    intro u hu
    refine Nat.eq_of_testBit_eq (fun i => ?_)
    rw [Nat.testBit_xor, Nat.testBit_or, Nat.testBit_two_pow]
    by_cases q : g = i
    · subst q; rw [hu, decide_eq_true rfl]; rfl
    · rw [decide_eq_false q, Bool.xor_false, Bool.or_false]
  constructor
  · intro h u hu
    cases hb : u.testBit g with
    | false =>
      rw [xo u hb]
      exact Decidable.byContradiction (fun z => h u hu ⟨hb, z⟩)
    | true =>
      have ul : u ^^^ 2 ^ g < 2 ^ n := Nat.xor_lt_two_pow hu pg
      have ub : (u ^^^ 2 ^ g).testBit g = false := by rw [Nat.testBit_xor, hb, Nat.testBit_two_pow, decide_eq_true rfl]; rfl
      have back : (u ^^^ 2 ^ g) ||| 2 ^ g = u := by
        rw [← xo _ ub, Nat.xor_assoc, Nat.xor_self, Nat.xor_zero]
      refine Decidable.byContradiction (fun z => h _ ul ⟨ub, ?_⟩)
      rw [back]
      exact fun y => z y.symm
  · intro h u hu q
    have := h u hu
    rw [xo u q.1] at this
    exact q.2 this
section
variable {K R C : Nat} {lg : Nat → Nat} {m : Nat} {sw : Bool} (k : Nat) (r : Nat → Nat → Value) (e : Nat) (I : Nat → Nat → Int32) (J : Nat → Nat → Int64) (A : Nat → Nat → Int32) (B : Nat → Nat → Int64)
end
