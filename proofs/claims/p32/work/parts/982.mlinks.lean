/-! links in the reference: codes, ends, one filling -/
def cs : Nat → Nat → Nat → Nat
  | 0, _, _ => 0
  | n + 1, a, b => cs n a b + ((a.testBit n).toNat + 2 * (b.testBit n).toNat) * 3 ^ n
theorem cs_congr {a b a' b' : Nat} : ∀ n, (∀ i, i < n → a.testBit i = a'.testBit i ∧ b.testBit i = b'.testBit i) → cs n a b = cs n a' b' := by
  intro n
  induction n with
  | zero => intro _; rfl
  | succ n ih =>
    intro h
    show cs n a b + _ = cs n a' b' + _
    rw [ih (fun i hi => h i (by omega)), (h n (by omega)).1, (h n (by omega)).2]
theorem and0_d {a b : Nat} (h : a &&& b = 0) (n : Nat) : (a.testBit n).toNat + 2 * (b.testBit n).toNat < 3 := by
  have := and0_bit h n
  cases q : a.testBit n <;> cases q2 : b.testBit n <;> simp [q, q2] at this ⊢
theorem cs_lt {a b : Nat} (h : a &&& b = 0) : ∀ n, cs n a b < 3 ^ n := by
  intro n
  induction n with
  | zero => exact Nat.one_pos
  | succ n ih =>
    show cs n a b + _ < _
    have d := and0_d h n
    generalize (a.testBit n).toNat + 2 * (b.testBit n).toNat = x at d ⊢
    have : x * 3 ^ n ≤ 2 * 3 ^ n := Nat.mul_le_mul_right _ (by omega)
    rw [Nat.pow_succ]
    omega
theorem cs_dg {a b : Nat} (h : a &&& b = 0) : ∀ n k, k < n → dg (cs n a b) k = (a.testBit k).toNat + 2 * (b.testBit k).toNat := by
  intro n
  induction n with
  | zero => intro k hk; omega
  | succ n ih =>
    intro k hk
    have z : dg (cs n a b) n = 0 := by unfold dg; rw [Nat.div_eq_of_lt (cs_lt h n)]
    show dg (cs n a b + ((a.testBit n).toNat + 2 * (b.testBit n).toNat) * 3 ^ n) k = _
    rw [Nat.mul_comm, dg_put z (and0_d h n)]
    by_cases q : k = n
    · subst q; rw [if_pos rfl]
    · rw [if_neg q]; exact ih k (by omega)
theorem cs_inj {n a b a' b' : Nat} (h1 : a < 2 ^ n) (h2 : b < 2 ^ n) (h3 : a' < 2 ^ n) (h4 : b' < 2 ^ n) (hd : a &&& b = 0) (hd' : a' &&& b' = 0) (he : cs n a b = cs n a' b') : a = a' ∧ b = b' := by
  have key : ∀ i, a.testBit i = a'.testBit i ∧ b.testBit i = b'.testBit i := by
    intro i
    by_cases q : i < n
    · have e := cs_dg hd n i q
      rw [he, cs_dg hd' n i q] at e
      have d1 := and0_bit hd i
      have d2 := and0_bit hd' i
      cases x1 : a.testBit i <;> cases x2 : b.testBit i <;> cases x3 : a'.testBit i <;> cases x4 : b'.testBit i <;> simp [x1, x2, x3, x4] at e d1 d2 ⊢
    · have p := Nat.pow_le_pow_right (n := 2) (by decide) (show n ≤ i by omega)
      rw [Nat.testBit_lt_two_pow (Nat.lt_of_lt_of_le h1 p), Nat.testBit_lt_two_pow (Nat.lt_of_lt_of_le h2 p), Nat.testBit_lt_two_pow (Nat.lt_of_lt_of_le h3 p), Nat.testBit_lt_two_pow (Nat.lt_of_lt_of_le h4 p)]
      exact ⟨rfl, rfl⟩
  exact ⟨Nat.eq_of_testBit_eq (fun i => (key i).1), Nat.eq_of_testBit_eq (fun i => (key i).2)⟩
theorem cs_rm {a b k : Nat} (hb : a.testBit k = true) : ∀ n, k < n → cs n a b = cs n (ndf a (2 ^ k)) b + 3 ^ k := by
  intro n
  induction n with
  | zero => intro h; omega
  | succ n ih =>
    intro h
    show cs n a b + _ = cs n (ndf a (2 ^ k)) b + _ + _
    by_cases q : k = n
    · subst q
      rw [cs_congr (a := a) (a' := ndf a (2 ^ k)) (b := b) (b' := b) k (fun i hi => ⟨by rw [tb_rm, decide_eq_false (by omega)]; simp, rfl⟩), hb, tb_rm, decide_eq_true rfl, hb]
      simp only [Bool.toNat_true, Bool.not_true, Bool.and_false, Bool.toNat_false]
      rw [Nat.add_mul, Nat.zero_add]
      omega
    · rw [ih (by omega), tb_rm, decide_eq_false q, Bool.not_false, Bool.and_true]
      omega
theorem cs_ad {a b k : Nat} (hb : b.testBit k = false) : ∀ n, k < n → cs n a (b ||| 2 ^ k) = cs n a b + 2 * 3 ^ k := by
  intro n
  induction n with
  | zero => intro h; omega
  | succ n ih =>
    intro h
    show cs n a (b ||| 2 ^ k) + _ = cs n a b + _ + _
    by_cases q : k = n
    · subst q
      rw [cs_congr (a := a) (a' := a) (b := b ||| 2 ^ k) (b' := b) k (fun i hi => ⟨rfl, by rw [tb_ad, decide_eq_false (by omega), Bool.or_false]⟩), hb, tb_ad, decide_eq_true rfl, hb]
      simp only [Bool.toNat_true, Bool.or_true, Bool.toNat_false, Nat.add_mul, Nat.mul_zero, Nat.mul_one, Nat.add_zero]
      omega
    · rw [ih (by omega), tb_ad, decide_eq_false q, Bool.or_false]
      omega
theorem cs_mv {a b k n : Nat} (ha : a.testBit k = true) (hb : b.testBit k = false) (hk : k < n) : cs n (ndf a (2 ^ k)) (b ||| 2 ^ k) = cs n a b + 3 ^ k := by
  have x := cs_rm (b := b) ha n hk
  rw [cs_ad hb n hk]
  omega
theorem rm_lt {r k : Nat} (h : r.testBit k = true) : ndf r (2 ^ k) < r := by
  have le : ndf r (2 ^ k) ≤ r := Nat.le_of_testBit (fun i q => by
    rw [tb_rm, Bool.and_eq_true] at q; exact q.1)
  have ne : ndf r (2 ^ k) ≠ r := fun z => by
    have : (ndf r (2 ^ k)).testBit k = true := by rw [z]; exact h
    rw [tb_rm, decide_eq_true rfl] at this
    simp at this
  omega
/-- whether ends are tied by stones -/
def TW (K R C : Nat) (w : Int64) (one oth : Nat) : Prop := ¬ (rcB K R C (ce K R C one) w &&& ce K R C oth = 0)
section
variable {K R C : Nat} (k : Nat) (r : Nat → Nat → Value) (e : Nat) (I : Nat → Nat → Int32) (J : Nat → Nat → Int64) (A : Nat → Nat → Int32) (B : Nat → Nat → Int64)
end
