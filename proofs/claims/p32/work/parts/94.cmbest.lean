/-! calls of best play, reference; gaveAway -/
abbrev MG (K R C : Nat) (lg : Nat → Nat) (m : Nat) (sw : Bool) (I : Nat → Nat → Int32) (A : Nat → Nat → Int32) (B : Nat → Nat → Int64) : Prop := MB K R C I A B ∧ RLg lg m sw I A ∧ B 45 0 = sN lg m sw 0 ∧ B 45 1 = sN lg m sw 1 ∧ (∀ j, j < 10 → A 51 j = i32 (3 ^ j))
/-- what a question leaves as it was in the reference -/
abbrev FM (I I' : Nat → Nat → Int32) (J J' : Nat → Nat → Int64) (A A' : Nat → Nat → Int32) (B B' : Nat → Nat → Int64) : Prop := (∀ i, i ≠ 39 → I' i = I i) ∧ (∀ p, p ≠ 21 → p ≠ 39 → I' 39 p = I 39 p) ∧ (∀ i, i ≠ 39 → J' i = J i) ∧ (∀ i, i ≠ 50 → i ≠ 52 → i ≠ 53 → i ≠ 62 → i ≠ 63 → A' i = A i) ∧ (∀ i, i ≠ 54 → B' i = B i)
theorem FM.rf (I : Nat → Nat → Int32) (J : Nat → Nat → Int64) (A : Nat → Nat → Int32) (B : Nat → Nat → Int64) : FM I I J J A A B B := ⟨fun _ _ => rfl, fun _ _ _ => rfl, fun _ _ => rfl, fun _ _ _ _ _ _ => rfl, fun _ _ => rfl⟩
theorem FM.th (I : Nat → Nat → Int32) (J : Nat → Nat → Int64) (A : Nat → Nat → Int32) (B : Nat → Nat → Int64) (x : Int32) : FM I (mm_up I 39 39 x) J J A A B B := ⟨fun i h => mm_up_row _ _ _ _ _ h, fun p _ h => mm_up_ne2 _ _ _ _ _ _ h, fun _ _ => rfl, fun _ _ _ _ _ _ => rfl, fun _ _ => rfl⟩
theorem FM.tr {I I' I'' : Nat → Nat → Int32} {J J' J'' : Nat → Nat → Int64} {A A' A'' : Nat → Nat → Int32} {B B' B'' : Nat → Nat → Int64} (h : FM I I' J J' A A' B B') (g : FM I' I'' J' J'' A' A'' B' B'') : FM I I'' J J'' A A'' B B'' := ⟨fun i a => by rw [g.1 i a, h.1 i a], fun p a b => by rw [g.2.1 p a b, h.2.1 p a b], fun i a => by rw [g.2.2.1 i a, h.2.2.1 i a], fun i a b c d f => by rw [g.2.2.2.1 i a b c d f, h.2.2.2.1 i a b c d f], fun i a => by rw [g.2.2.2.2 i a, h.2.2.2.2 i a]⟩
theorem mcf_emp {N : Nat} (_ : N ≤ 36) (s0 s1 : Int64) : cf (mb (emp N s0 s1)) 36 = gn (emp N s0 s1) := rfl
section
variable {K R C : Nat} {lg : Nat → Nat} {m : Nat} {sw : Bool} (k : Nat) (r : Nat → Nat → Value) (e : Nat) (I : Nat → Nat → Int32) (J : Nat → Nat → Int64) (A : Nat → Nat → Int32) (B : Nat → Nat → Int64)
theorem solves_fr {I1 : Nat → Nat → Int32} {A1 : Nat → Nat → Int32} {B1 : Nat → Nat → Int64} {x : Int32} (hI : I1 = mm_up I 39 21 x) (h4 : ∀ i, i ≠ 50 → i ≠ 52 → i ≠ 53 → A1 i = A i) (h5 : ∀ i, i ≠ 54 → B1 i = B i) : FM I I1 J J A A1 B B1 := by
  subst hI
  exact ⟨fun i h => mm_up_row _ _ _ _ _ h, fun p h _ => mm_up_ne2 _ _ _ _ _ _ h, fun _ _ => rfl, fun i a b c _ _ => h4 i a b c, h5⟩
/-- a move from the root of the fillings -/
theorem zF_one {E s0 s1 : Int64} {tu j : Nat} (ht : tu < 2) (hj : j < gn E) : tnF (gn E) tu (3 ^ j * (tu + 1)) = 1 - tu ∧ 3 ^ j * (tu + 1) < 3 ^ gn E ∧ zF K R C E s0 s1 tu (3 ^ j * (tu + 1)) = Sc K R C (gn E - 1) (1 - tu) (pt tu 0 (gc E j) s0) (pt tu 1 (gc E j) s1) := by
  have t0 := tnF_0 (n := gn E) ht
  have a := tnF_put (n := gn E) ht (dg_0 j) hj (by rw [t0]; exact ht)
  have b := put_lt (n := gn E) (d := tu + 1) (dg_0 j) (by omega) hj (Nat.pow_pos (by decide))
  have s := dn3_sum 0 (gn E)
  rw [dn3_0 _ (d := 1) (by decide), dn3_0 _ (d := 2) (by decide)] at s
  have c := zF_put (K := K) (R := R) (C := C) (s0 := s0) (s1 := s1) (f' := gn E - 1) ht (dg_0 j) hj (by rw [t0]; exact ht) (by omega)
  rw [t0, fl_0 _ (by decide), fl_0 _ (by decide), or_zero64, or_zero64] at c
  rw [t0] at a
  rw [Nat.zero_add] at a b c
  exact ⟨a, b, c⟩
end
