/-! the reference solves all fillings -/
section
variable {K R C : Nat}
theorem Sc_j0 {f t : Nat} {s0 s1 : Int64} (h : jnB K R C 0 s0 = true) : Sc K R C f t s0 s1 = sg t 0 := by
  cases f with
  | zero => unfold Sc; rw [if_pos h]
  | succ f => unfold Sc; rw [if_pos h]
theorem Sc_j1 {f t : Nat} {s0 s1 : Int64} (h0 : jnB K R C 0 s0 = false) (h : jnB K R C 1 s1 = true) : Sc K R C f t s0 s1 = sg t 1 := by
  have e : ¬ jnB K R C 0 s0 = true := by rw [h0]; decide
  cases f with
  | zero => unfold Sc; rw [if_neg e, if_pos h]
  | succ f => unfold Sc; rw [if_neg e, if_pos h]
theorem val_sg {t p : Nat} (ht : t < 2) (hp : p < 2) : val t (sg t p) = p := by
  unfold val sg
  by_cases q : t = p
  · rw [if_pos q, if_pos (by decide)]; exact q
  · rw [if_neg q, if_neg (by decide)]; omega
theorem las_sg (t p : Nat) : las (sg t p) = 0 := by
  unfold sg
  split <;> rfl
theorem bestV_val {s0 s1 : Int64} {tu : Nat} (ht : tu < 2) : bestV K R C s0 s1 tu = val tu (Sc K R C (gn (emp (bN K R C) s0 s1)) tu s0 s1) := by
  unfold bestV
  cases j0 : jnB K R C 0 s0 with
  | true => rw [if_pos rfl, Sc_j0 j0, val_sg ht (by decide)]
  | false =>
    rw [if_neg (by decide)]
    cases j1 : jnB K R C 1 s1 with
    | true => rw [if_pos rfl, Sc_j1 j0 j1, val_sg ht (by decide)]
    | false => rw [if_neg (by decide)]; rfl
theorem lastV_las {s0 s1 : Int64} {tu : Nat} : lastV K R C s0 s1 tu = (las (Sc K R C (gn (emp (bN K R C) s0 s1)) tu s0 s1) : Int) := by
  unfold lastV
  cases j0 : jnB K R C 0 s0 with
  | true => rw [if_pos rfl, Sc_j0 j0, las_sg]; rfl
  | false =>
    rw [if_neg (by decide)]
    cases j1 : jnB K R C 1 s1 with
    | true => rw [if_pos rfl, Sc_j1 j0 j1, las_sg]; rfl
    | false =>
      rw [if_neg (by decide)]
      have b := Sc_bd (K := K) (R := R) (C := C) (gn (emp (bN K R C) s0 s1)) tu s0 s1
      unfold las
      split
      · omega
      · omega
theorem dg_0 (j : Nat) : dg 0 j = 0 := by unfold dg; rw [Nat.zero_div]
theorem fl_0 (E : Int64) {d : Nat} (hd : 0 < d) : ∀ n, fl E 0 d n = 0 := by
  intro n
  induction n with
  | zero => rfl
  | succ n ih =>
    show fl E 0 d n ||| _ = 0
    rw [ih, dg_0, if_neg (by omega)]; rfl
theorem dn3_0 (n : Nat) {d : Nat} (hd : 0 < d) : dn3 n 0 d = 0 := by
  induction n with
  | zero => rfl
  | succ n ih => 
    show dn3 n 0 d + (decide (dg 0 n = d)).toNat = 0
    rw [ih, dg_0, decide_eq_false (by omega)]; rfl
theorem tnF_0 {n tu : Nat} (ht : tu < 2) : tnF n tu 0 = tu := by
  unfold tnF
  rw [dn3_0 n (by omega), dn3_0 n (by omega), if_pos rfl]
theorem zF_0 {E s0 s1 : Int64} {tu : Nat} (ht : tu < 2) : zF K R C E s0 s1 tu 0 = Sc K R C (gn E) tu s0 s1 := by
  unfold zF
  have s := dn3_sum 0 (gn E)
  rw [dn3_0 _ (d := 1) (by decide), dn3_0 _ (d := 2) (by decide)] at s
  rw [tnF_0 ht, fl_0 _ (by decide), fl_0 _ (by decide), or_zero64, or_zero64, show dn3 (gn E) 0 0 = gn E by omega]
end
section
variable (k : Nat) (r : Nat → Nat → Value) (e : Nat) (J : Nat → Nat → Int64)
end
