/-! the reference solves: one filling -/
def las (z : Int) : Nat := (if 0 < z then 100 - z else 100 + z).toNat
def val (t : Nat) (z : Int) : Nat := if 0 < z then t else 1 - t
noncomputable def zF (K R C : Nat) (E s0 s1 : Int64) (tu c : Nat) : Int := Sc K R C (dn3 (gn E) c 0) (tnF (gn E) tu c) (s0 ||| fl E c 1 (gn E)) (s1 ||| fl E c 2 (gn E))
def VC (K R C : Nat) (E s0 s1 : Int64) (tu : Nat) (A : Nat → Nat → Int32) (c : Nat) : Prop := A 52 c = i32 (val (tnF (gn E) tu c) (zF K R C E s0 s1 tu c)) ∧ A 53 c = i32 (las (zF K R C E s0 s1 tu c))
def RI (few mo : Nat) (a : Int) : Prop := (few = 1000 ∧ mo ≤ 10 ∧ a = (mo : Int) - 100) ∨ (1 ≤ few ∧ few ≤ 10 ∧ mo ≤ 10 ∧ a = 100 - (few : Int))
theorem RI_win {few mo : Nat} {a z : Int} (h : RI few mo a) (z1 : -100 ≤ z) (z2 : z ≤ -91) : RI (if las z + 1 < few then las z + 1 else few) mo (max a (bk z)) := by
  have l : (las z : Int) = 100 + z := by
    unfold las
    rw [if_neg (by omega)]
    omega
  have b : bk z = -1 - z := if_neg (by omega)
  rw [b]
  rcases h with ⟨h1, h2, h3⟩ | ⟨h1, h2, h3, h4⟩
  · rw [if_pos (by omega), Int.max_eq_right (by omega)]
    right; omega
  · by_cases q : las z + 1 < few
    · rw [if_pos q, Int.max_eq_right (by omega)]; right; omega
    · rw [if_neg q, Int.max_eq_left (by omega)]; right; omega
theorem RI_los {few mo : Nat} {a z : Int} (h : RI few mo a) (z1 : 91 ≤ z) (z2 : z ≤ 100) : RI few (if mo < las z + 1 then las z + 1 else mo) (max a (bk z)) := by
  have l : (las z : Int) = 100 - z := by
    unfold las
    rw [if_pos (by omega)]
    omega
  have b : bk z = 1 - z := if_pos (by omega)
  rw [b]
  rcases h with ⟨h1, h2, h3⟩ | ⟨h1, h2, h3, h4⟩
  · by_cases q : mo < las z + 1
    · rw [if_pos q, Int.max_eq_right (by omega)]; left; omega
    · rw [if_neg q, Int.max_eq_left (by omega)]; left; omega
  · rw [Int.max_eq_left (by omega)]
    by_cases q : mo < las z + 1
    · rw [if_pos q]; right; omega
    · rw [if_neg q]; right; omega
section
variable {K R C : Nat} {E s0 s1 : Int64} {tu : Nat}
theorem zF_put (ht : tu < 2) {c k f' : Nat} (h0 : dg c k = 0) (hk : k < gn E) (hl : tnF (gn E) tu c < 2) (hf : dn3 (gn E) c 0 = f' + 1) : zF K R C E s0 s1 tu (c + 3 ^ k * (tnF (gn E) tu c + 1)) = Sc K R C f' (1 - tnF (gn E) tu c) (pt (tnF (gn E) tu c) 0 (gc E k) (s0 ||| fl E c 1 (gn E))) (pt (tnF (gn E) tu c) 1 (gc E k) (s1 ||| fl E c 2 (gn E))) := by
  unfold zF
  have a1 := dn3_sum c (gn E)
  have a2 := dn3_sum (c + 3 ^ k * (tnF (gn E) tu c + 1)) (gn E)
  have b1 := dn3_put (n := gn E) (k := k) (d := tnF (gn E) tu c + 1) (d' := 1) h0 (by omega) (by omega) hk (by decide)
  have b2 := dn3_put (n := gn E) (k := k) (d := tnF (gn E) tu c + 1) (d' := 2) h0 (by omega) (by omega) hk (by decide)
  have c1 := fl_put (E := E) (k := k) (d := tnF (gn E) tu c + 1) (d' := 1) h0 (by omega) (by omega) hk (by decide)
  have c2 := fl_put (E := E) (k := k) (d := tnF (gn E) tu c + 1) (d' := 2) h0 (by omega) (by omega) hk (by decide)
  rw [tnF_put ht h0 hk hl, c1, c2]
  unfold pt
  have t01 : tnF (gn E) tu c = 0 ∨ tnF (gn E) tu c = 1 := by omega
  rcases t01 with q | q
  · rw [q] at a2 b1 b2 ⊢
    rw [if_pos rfl] at b1
    rw [if_neg (by decide)] at b2
    rw [if_pos rfl, if_neg (by decide), if_pos rfl, if_neg (by decide), or_assoc64, show dn3 (gn E) (c + 3 ^ k * (0 + 1)) 0 = f' by omega]
  · rw [q] at a2 b1 b2 ⊢
    rw [if_neg (by decide)] at b1
    rw [if_pos rfl] at b2
    rw [if_neg (by decide), if_pos rfl, if_neg (by decide), if_pos rfl, or_assoc64, show dn3 (gn E) (c + 3 ^ k * (1 + 1)) 0 = f' by omega]
theorem dn3_free {n c k : Nat} (hk : k < n) (h0 : dg c k = 0) : ∃ f', dn3 n c 0 = f' + 1 := by
  have := cf_one (p := fun j => decide (dg c j = 0)) hk (decide_eq_true h0)
  have e : dn3 n c 0 = cf (fun j => decide (dg c j = 0)) n := rfl
  exact ⟨dn3 n c 0 - 1, by omega⟩
theorem zF_tp (hE : EH (bN K R C) E s0 s1) (ht : tu < 2) {c : Nat} (hl : tnF (gn E) tu c < 2) (j0 : jnB K R C 0 (s0 ||| fl E c 1 (gn E)) = false) (j1 : jnB K R C 1 (s1 ||| fl E c 2 (gn E)) = false) : zF K R C E s0 s1 tu c = tp (fun k => decide (dg c k = 0)) (fun k => bk (zF K R C E s0 s1 tu (c + 3 ^ k * (tnF (gn E) tu c + 1)))) (gn E) := by
  cases hf : dn3 (gn E) c 0 with
  | zero =>
    rw [tp_none hf]
    unfold zF
    rw [hf]
    unfold Sc
    rw [if_neg (by rw [j0]; decide), if_neg (by rw [j1]; decide)]
  | succ f' =>
    have e : zF K R C E s0 s1 tu c = Sc K R C (f' + 1) (tnF (gn E) tu c) (s0 ||| fl E c 1 (gn E)) (s1 ||| fl E c 2 (gn E)) := by
      unfold zF; rw [hf]
    rw [e]
    unfold Sc
    rw [if_neg (by rw [j0]; decide), if_neg (by rw [j1]; decide), tp_gap (E := E) (p := fre (bN K R C) (s0 ||| fl E c 1 (gn E)) (s1 ||| fl E c 2 (gn E))) (fun x hx => fre_E hE (t := 0) (by decide) x hx) 36 (Nat.le_refl _)]
    refine tp_congr (fun k hk => fre_dg hE hk) (fun k hk hq => ?_)
    rw [fre_dg hE hk, decide_eq_true_eq] at hq
    rw [zF_put ht hq hk hl hf]
end
theorem p3le {n : Nat} (h : n ≤ 9) : 3 ^ n ≤ 19683 := Nat.pow_le_pow_right (n := 3) (by decide) h
section
variable (k : Nat) (r : Nat → Nat → Value) (e : Nat) (I : Nat → Nat → Int32) (J : Nat → Nat → Int64) (A : Nat → Nat → Int32) (B : Nat → Nat → Int64)
end
