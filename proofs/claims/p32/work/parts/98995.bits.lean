/-! patterns: rows of bits -/
def nbw (f : Nat → Nat) : Nat → Nat
  | 0 => 0
  | j + 1 => nbw f j ||| (f j <<< (4 * j))
theorem tb_nbw {f : Nat → Nat} (hf : ∀ j, f j < 16) (i : Nat) : ∀ k, (nbw f k).testBit i = (decide (i / 4 < k) && (f (i / 4)).testBit (i % 4)) := by
  intro k
  induction k with
  | zero => show (0 : Nat).testBit i = _; rw [Nat.zero_testBit, decide_eq_false (Nat.not_lt_zero _), Bool.false_and]
  | succ k ih =>
    have un : nbw f (k + 1) = nbw f k ||| (f k <<< (4 * k)) := rfl
    rw [un, Nat.testBit_or, ih, Nat.testBit_shiftLeft]
    by_cases q : i / 4 = k
    · rw [decide_eq_false (show ¬ i / 4 < k by omega), Bool.false_and, Bool.false_or, decide_eq_true (show i / 4 < k + 1 by omega), Bool.true_and, decide_eq_true (show i ≥ 4 * k by omega), Bool.true_and, q, show i - 4 * k = i % 4 by omega]
    · have z : (decide (i ≥ 4 * k) && (f k).testBit (i - 4 * k)) = false := by
        by_cases y : i ≥ 4 * k
        · rw [decide_eq_true y, Bool.true_and]
          refine Nat.testBit_lt_two_pow (Nat.lt_of_lt_of_le (hf k) ?_)
          exact Nat.le_trans (show 16 ≤ 2 ^ 4 by decide) (Nat.pow_le_pow_right (show 0 < 2 by decide) (show 4 ≤ i - 4 * k by omega))
        · rw [decide_eq_false y, Bool.false_and]
      rw [z, Bool.or_false]
      by_cases y : i / 4 < k
      · rw [decide_eq_true y, decide_eq_true (show i / 4 < k + 1 by omega)]
      · rw [decide_eq_false y, decide_eq_false (show ¬ i / 4 < k + 1 by omega)]
theorem nbw_lt {f : Nat → Nat} (hf : ∀ j, f j < 16) : ∀ k, nbw f k < 2 ^ (4 * k) := by
  intro k
  refine Nat.lt_pow_two_of_testBit _ (fun i hi => ?_)
  rw [tb_nbw hf, decide_eq_false (by omega), Bool.false_and]
theorem i32_l4 {a : Nat} (h : a < 16777216) : i32 a <<< ((4 : Int32) &&& 31) = i32 (a <<< 4) := by
  apply Int32.toBitVec_inj.1
  rw [Int32.toBitVec_shiftLeft]
  apply BitVec.eq_of_toNat_eq
  rw [show (((4 : Int32) &&& 31).toBitVec.smod 32) = 4#32 by decide, BitVec.shiftLeft_eq', BitVec.toNat_shiftLeft]
  show ((a % 2 ^ 32) <<< 4) % 2 ^ 32 = (a <<< 4) % 2 ^ 32
  rw [Nat.mod_eq_of_lt (show a < 2 ^ 32 by omega)]
theorem i32_r20 {a : Nat} (h : a < 16777216) : i32 a >>> ((20 : Int32) &&& 31) = i32 (a >>> 20) := by
  apply Int32.toBitVec_inj.1
  rw [Int32.toBitVec_shiftRight]
  apply BitVec.eq_of_toNat_eq
  rw [show (((20 : Int32) &&& 31).toBitVec.smod 32) = 20#32 by decide, BitVec.sshiftRight']
  have m : (i32 a).toBitVec.msb = false := by
    rw [BitVec.msb_eq_false_iff_two_mul_lt]
    show 2 * (a % 2 ^ 32) < 2 ^ 32
    omega
  rw [BitVec.sshiftRight_eq_of_msb_false m, BitVec.toNat_ushiftRight]
  show (a % 2 ^ 32) >>> (20#32).toNat = (a >>> 20) % 2 ^ 32
  have e : (20#32).toNat = 20 := rfl
  rw [e, Nat.shiftRight_eq_div_pow, Nat.shiftRight_eq_div_pow]
  omega
theorem sh4_t : ∀ a : Fin 16, ∀ j : Fin 6, i32 a.1 <<< (((4 : Int32) * i32 j.1) &&& 31) = i32 (a.1 <<< (4 * j.1)) := by decide +kernel
theorem sh4 {a j : Nat} (ha : a < 16) (hj : j < 6) : i32 a <<< (((4 : Int32) * i32 j) &&& 31) = i32 (a <<< (4 * j)) := sh4_t ⟨a, ha⟩ ⟨j, hj⟩
theorem rot_nbw {f : Nat → Nat} (hf : ∀ j, f j < 16) : ((nbw f 6 <<< 4) ||| (nbw f 6 >>> 20)) &&& 16777215 = nbw (fun d => f ((d + 5) % 6)) 6 := by
  rw [show (16777215 : Nat) = 2 ^ 24 - 1 from rfl, Nat.and_two_pow_sub_one_eq_mod]
  apply Nat.eq_of_testBit_eq
  intro i
  rw [Nat.testBit_mod_two_pow, Nat.testBit_or, Nat.testBit_shiftLeft, Nat.testBit_shiftRight, tb_nbw hf, tb_nbw hf, tb_nbw (fun j => hf _)]
  by_cases q : i < 24
  · rw [decide_eq_true q, Bool.true_and, decide_eq_true (show i / 4 < 6 by omega), Bool.true_and]
    by_cases y : i ≥ 4
    · rw [decide_eq_true y, Bool.true_and, decide_eq_true (show (i - 4) / 4 < 6 by omega), Bool.true_and, decide_eq_false (show ¬ (20 + i) / 4 < 6 by omega), Bool.false_and, Bool.or_false, show (i - 4) / 4 = (i / 4 + 5) % 6 by omega, show (i - 4) % 4 = i % 4 by omega]
    · rw [decide_eq_false y, Bool.false_and, Bool.false_or, decide_eq_true (show (20 + i) / 4 < 6 by omega), Bool.true_and, show (20 + i) / 4 = (i / 4 + 5) % 6 by omega, show (20 + i) % 4 = i % 4 by omega]
  · rw [decide_eq_false q, Bool.false_and, decide_eq_false (show ¬ i / 4 < 6 by omega), Bool.false_and]
theorem ndf_fit {th h : Nat → Nat} (ht : ∀ d, ∃ b, b < 4 ∧ th d = 2 ^ b) (hh : ∀ d, h d < 16) : ndf (nbw th 6) (nbw h 6) = 0 ↔ ∀ d, d < 6 → ¬ (h d &&& th d = 0) := by
  have t16 : ∀ d, th d < 16 := fun d => by
    obtain ⟨b, b1, b2⟩ := ht d
    rw [b2]
    exact Nat.lt_of_le_of_lt (Nat.pow_le_pow_right (by decide) (show b ≤ 3 by omega)) (by decide)
  have nz : ∀ x : Fin 16, ∀ b : Fin 4, ((x.1 &&& 2 ^ b.1 = 0) ↔ x.1.testBit b.1 = false) := by decide +kernel
  constructor
  · intro z d hd y
    obtain ⟨b, b1, b2⟩ := ht d
    rw [b2] at y
    have y2 := (nz ⟨h d, hh d⟩ ⟨b, b1⟩).1 y
    have := congrArg (fun w => Nat.testBit w (4 * d + b)) z
    simp only [tb_ndf, tb_nbw t16, tb_nbw hh, Nat.zero_testBit] at this
    rw [show (4 * d + b) / 4 = d by omega, show (4 * d + b) % 4 = b by omega, decide_eq_true hd, Bool.true_and, Bool.true_and, b2, Nat.testBit_two_pow_self, y2] at this
    cases this
  · intro z
    apply Nat.eq_of_testBit_eq
    intro i
    rw [tb_ndf, tb_nbw t16, tb_nbw hh, Nat.zero_testBit]
    by_cases q : i / 4 < 6
    · rw [decide_eq_true q, Bool.true_and, Bool.true_and]
      obtain ⟨b, b1, b2⟩ := ht (i / 4)
      have y := z (i / 4) q
      rw [b2] at y ⊢
      rw [Nat.testBit_two_pow]
      by_cases x : b = i % 4
      · subst x
        have y2 : (h (i / 4)).testBit (i % 4) = true := by
          cases w : (h (i / 4)).testBit (i % 4) with
          | true => rfl
          | false => exact absurd ((nz ⟨h (i / 4), hh _⟩ ⟨i % 4, by omega⟩).2 w) y
        rw [y2, Bool.not_true, Bool.and_false]
      · rw [decide_eq_false x, Bool.false_and]
    · rw [decide_eq_false q, Bool.false_and, Bool.false_and]
def tuN (t : Nat → Nat) (s u : Nat) : Nat → Nat := fun d => men (t (s + (d + 6 - u) % 6))
theorem fitT_row {t th : Nat → Nat} {s u : Nat} (hu : u < 6) : fitT t th s u = true ↔ ∀ d, d < 6 → ¬ (tuN t s u d &&& th d = 0) := by
  unfold fitT tuN
  rw [alB_t]
  constructor
  · intro z d hd
    have y := z ((d + 6 - u) % 6) (Nat.mod_lt _ (by decide))
    rw [Bool.not_eq_true', decide_eq_false_iff_not, show ((d + 6 - u) % 6 + u) % 6 = d by omega] at y
    exact y
  · intro z i hi
    have y := z ((i + u) % 6) (Nat.mod_lt _ (by decide))
    rw [show ((i + u) % 6 + 6 - u) % 6 = i by omega] at y
    rw [Bool.not_eq_true', decide_eq_false_iff_not]
    exact y
def alW (t : Nat → Nat) (n s : Nat) : Nat := nbw (fun j => men (t (s + j))) 6 ||| (if fxT t n s = true then 2 ^ 24 else 0)
theorem men_16 (c : Nat) : men c < 16 := by
  unfold men
  split
  · omega
  · split
    · omega
    · split
      · omega
      · split
        · omega
        · split <;> omega
theorem alW_and (t : Nat → Nat) (n s : Nat) : alW t n s &&& 16777215 = nbw (fun j => men (t (s + j))) 6 ∧ (alW t n s &&& 16777216 = 0 ↔ fxT t n s = false) ∧ alW t n s < 2 ^ 25 := by
  have l : nbw (fun j => men (t (s + j))) 6 < 2 ^ (4 * 6) := nbw_lt (fun j => men_16 _) 6
  unfold alW
  generalize nbw (fun j => men (t (s + j))) 6 = W at l ⊢
  have l24 : W.testBit 24 = false := Nat.testBit_lt_two_pow l
  cases fxT t n s with
  | false =>
    rw [if_neg (show ¬ false = true by decide), Nat.or_zero]
    refine ⟨?_, ⟨fun _ => rfl, fun _ => ?_⟩, by omega⟩
    · rw [show (16777215 : Nat) = 2 ^ 24 - 1 from rfl, Nat.and_two_pow_sub_one_eq_mod, Nat.mod_eq_of_lt l]
    · rw [show (16777216 : Nat) = 2 ^ 24 from rfl]
      apply Nat.eq_of_testBit_eq
      intro i
      rw [Nat.testBit_and, Nat.testBit_two_pow, Nat.zero_testBit]
      by_cases q : 24 = i
      · rw [← q, l24]; rfl
      · rw [decide_eq_false q, Bool.and_false]
  | true =>
    rw [if_pos rfl]
    have tb : (W ||| 2 ^ 24).testBit 24 = true := by rw [Nat.testBit_or, Nat.testBit_two_pow_self, Bool.or_true]
    refine ⟨?_, ⟨fun z => ?_, fun z => by cases z⟩, Nat.or_lt_two_pow (by omega) (by decide)⟩
    · rw [show (16777215 : Nat) = 2 ^ 24 - 1 from rfl, Nat.and_two_pow_sub_one_eq_mod]
      apply Nat.eq_of_testBit_eq
      intro i
      rw [Nat.testBit_mod_two_pow, Nat.testBit_or, Nat.testBit_two_pow]
      by_cases q : i < 24
      · rw [decide_eq_true q, decide_eq_false (show ¬ 24 = i by omega), Bool.or_false, Bool.true_and]
      · rw [decide_eq_false q, Bool.false_and]
        exact (Nat.testBit_lt_two_pow (Nat.lt_of_lt_of_le l (Nat.pow_le_pow_right (by decide) (by omega)))).symm
    · rw [show (16777216 : Nat) = 2 ^ 24 from rfl] at z
      have y := congrArg (fun w => Nat.testBit w 24) z
      simp only [Nat.testBit_and, tb, Nat.testBit_two_pow_self, Nat.zero_testBit] at y
      cases y
theorem tuN_0 (t : Nat → Nat) (s : Nat) : nbw (tuN t s 0) 6 = nbw (fun j => men (t (s + j))) 6 := rfl
theorem tuN_s {t : Nat → Nat} {s u : Nat} (hu : u < 5) : ((nbw (tuN t s u) 6 <<< 4) ||| (nbw (tuN t s u) 6 >>> 20)) &&& 16777215 = nbw (tuN t s (u + 1)) 6 := by
  rw [rot_nbw (f := tuN t s u) (fun j => men_16 _)]
  have : (fun d => tuN t s u ((d + 5) % 6)) = tuN t s (u + 1) := by
    funext d
    unfold tuN
    rw [show ((d + 5) % 6 + 6 - u) % 6 = (d + 6 - (u + 1)) % 6 by omega]
  rw [this]
section
theorem sp_rowFits (S : mm_S) {t th : Nat → Nat} {n s : Nat} (ht : ∀ d, ∃ b, b < 4 ∧ th d = 2 ^ b) : f_X5_rowFits [.int (i32 (alW t n s)), .int (i32 (nbw th 6))] S = some (.inl (some (.int (bi (exB (fitT t th s) (if fxT t n s = true then 1 else 6))))), S) := by
  obtain ⟨w1, w2, w3⟩ := alW_and t n s
  have t16 : ∀ d, th d < 16 := fun d => by
    obtain ⟨b, b1, b2⟩ := ht d
    rw [b2]
    exact Nat.lt_of_le_of_lt (Nat.pow_le_pow_right (by decide) (show b ≤ 3 by omega)) (by decide)
  have lth : nbw th 6 < 2 ^ (4 * 6) := nbw_lt t16 6
  have L : ∀ (U : Nat), U ≤ 6 → ∀ (dd u : Nat), u + dd = U → exB (fitT t th s) u = false → ∀ a : Nat, (u < 6 → a = nbw (tuN t s u) 6) → mm_run (mm_pr tb_X5_rowFits) (22, [some (.int (i32 (alW t n s))), some (.int (i32 (nbw th 6))), some (.int (i32 a)), some (.int (i32 U)), some (.int (i32 u))], [], S) = some (.inl (some (.int (bi (exB (fitT t th s) U)))), S) := by
    intro U hU dd
    induction dd with
    | zero =>
      intro u hu he a ha
      have : u = U := by omega
      subst this
      rw [sg_X5_rowFits_22, if_neg (by rw [i32_lt (by omega) (by omega)]; omega), he]; rfl
    | succ dd ih =>
      intro u hu he a ha
      have un : exB (fitT t th s) (u + 1) = (exB (fitT t th s) u || fitT t th s u) := rfl
      rw [ha (by omega)]
      have lt : nbw (tuN t s u) 6 < 2 ^ (4 * 6) := nbw_lt (fun j => men_16 _) 6
      have fr := fitT_row (t := t) (th := th) (s := s) (u := u) (by omega)
      have nf := ndf_fit (th := th) (h := tuN t s u) ht (fun d => men_16 _)
      have nl : ndf (nbw th 6) (nbw (tuN t s u) 6) < 2 ^ 24 := by
        refine Nat.lt_pow_two_of_testBit _ (fun i hi => ?_)
        rw [tb_ndf, tb_nbw t16, decide_eq_false (by omega), Bool.false_and, Bool.false_and]
      rw [sg_X5_rowFits_22, if_pos ((i32_lt (by omega) (by omega)).2 (by omega))]
      have nd : i32 (nbw th 6) &&& (i32 (nbw (tuN t s u) 6) ^^^ (-1 : Int32)) = i32 (ndf (nbw th 6) (nbw (tuN t s u) 6)) := i32_ndf _ _
      rw [nd]
      cases x : fitT t th s u with
      | true =>
        rw [if_pos (show i32 (ndf (nbw th 6) (nbw (tuN t s u) 6)) = 0 by rw [nf.2 (fr.1 x)]; rfl), exB_go (p := fitT t th s) (i := u) (n := U) x (by omega)]; rfl
      | false =>
        have ne : ¬ ndf (nbw th 6) (nbw (tuN t s u) 6) = 0 := fun z => by rw [fr.2 (nf.1 z)] at x; cases x
        rw [if_neg (show ¬ i32 (ndf (nbw th 6) (nbw (tuN t s u) 6)) = 0 from fun z => ne ((i32_eq (b := 0) (by omega) (by decide)).1 z)), i32_l4 (by omega), i32_r20 (by omega), i32_or, show (16777215 : Int32) = i32 16777215 from rfl, i32_and]
        simp only [i32_l]
        rw [i32_add]
        refine ih (u + 1) (by omega) (by rw [un, he, x]; rfl) _ (fun z => ?_)
        exact tuN_s (by omega)
  rw [en_X5_rowFits, sg_X5_rowFits_0, show (16777215 : Int32) = i32 16777215 from rfl, show (16777216 : Int32) = i32 16777216 from rfl, i32_and, i32_and, w1, sg_X5_rowFits_18, sg_X5_rowFits_18]
  have wl : alW t n s &&& 16777216 ≤ alW t n s := Nat.and_le_left
  cases q : fxT t n s with
  | false =>
    rw [if_pos (show i32 (alW t n s &&& 16777216) = 0 by rw [w2.2 q]; rfl), if_neg (show ¬ false = true by decide)]
    exact L 6 (by decide) 6 0 rfl rfl _ (fun _ => rfl)
  | true =>
    rw [if_neg (show ¬ i32 (alW t n s &&& 16777216) = 0 from fun z => by
      have := w2.1 ((i32_eq (b := 0) (by omega) (by decide)).1 z)
      rw [this] at q; cases q), if_pos rfl]
    exact L 1 (by decide) 1 0 rfl rfl _ (fun _ => rfl)
end
