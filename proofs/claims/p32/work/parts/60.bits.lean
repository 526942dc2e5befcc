def mb (x : Int64) (c : Nat) : Bool := x.toBitVec.getLsbD c
theorem mb_hi (x : Int64) (c : Nat) (h : 64 ≤ c) : mb x c = false := BitVec.getLsbD_of_ge _ _ h
theorem mb_lt {x : Int64} {c : Nat} (h : mb x c = true) : c < 64 := by
  rcases Nat.lt_or_ge c 64 with q | q
  · exact q
  · rw [mb_hi x c q] at h; cases h
theorem mb_ext {x y : Int64} (h : ∀ c, c < 64 → mb x c = mb y c) : x = y := by
  apply Int64.toBitVec_inj.1
  exact BitVec.eq_of_getLsbD_eq (fun i hi => h i hi)
theorem mb_and (x y : Int64) (c : Nat) : mb (x &&& y) c = (mb x c && mb y c) := by
  unfold mb; rw [Int64.toBitVec_and, BitVec.getLsbD_and]
theorem mb_or (x y : Int64) (c : Nat) : mb (x ||| y) c = (mb x c || mb y c) := by
  unfold mb; rw [Int64.toBitVec_or, BitVec.getLsbD_or]
theorem mb_zero (c : Nat) : mb 0 c = false := by
  unfold mb; show (0#64).getLsbD c = false; exact BitVec.getLsbD_zero
theorem mb_m1 (c : Nat) (h : c < 64) : mb (-1) c = true := by
  unfold mb
  rw [show (-1 : Int64).toBitVec = BitVec.allOnes 64 from rfl, BitVec.getLsbD_allOnes]
  exact decide_eq_true h
theorem mb_cpl (x : Int64) (c : Nat) (h : c < 64) : mb (x ^^^ -1) c = !mb x c := by
  show (x ^^^ -1).toBitVec.getLsbD c = _
  rw [Int64.toBitVec_xor, BitVec.getLsbD_xor]
  have := mb_m1 c h
  unfold mb at this
  rw [this]
  exact Bool.xor_true _
def i32 (n : Nat) : Int32 := Int32.ofNat n
theorem i32_add (a b : Nat) : i32 a + i32 b = i32 (a + b) := (Int32.ofNat_add a b).symm
theorem i32_mul (a b : Nat) : i32 a * i32 b = i32 (a * b) := (Int32.ofNat_mul a b).symm
theorem i32_toInt {a : Nat} (h : a < 2147483648) : (i32 a).toInt = (a : Int) := Int32.toInt_ofNat_of_lt h
theorem i32_lt {a b : Nat} (ha : a < 2147483648) (hb : b < 2147483648) : (i32 a < i32 b) ↔ a < b := by
  rw [Int32.lt_iff_toInt_lt, i32_toInt ha, i32_toInt hb]; omega
theorem i32_eq {a b : Nat} (ha : a < 2147483648) (hb : b < 2147483648) : (i32 a = i32 b) ↔ a = b := by
  rw [← Int32.toInt_inj, i32_toInt ha, i32_toInt hb]; omega
def mbit (c : Nat) : Int64 := (1 : Int64) <<< ((i32 c).toInt64 &&& 63)
theorem mbit_bv : ∀ c : Fin 64, (mbit c.1).toBitVec = BitVec.twoPow 64 c.1 := by decide
theorem mb_bit (c j : Nat) (h : c < 64) : mb (mbit c) j = decide (c = j) := by
  unfold mb
  rw [mbit_bv ⟨c, h⟩, BitVec.getLsbD_twoPow]
  simp only [h, decide_true, Bool.true_and]
theorem mb_shr_ix : ∀ c : Fin 64, ((i32 c.1).toInt64 &&& 63).toBitVec.smod 64 = BitVec.ofNat 64 c.1 := by decide
theorem mb_has (x : Int64) (c : Nat) (h : c < 64) : ((x >>> ((i32 c).toInt64 &&& 63)) &&& (1 : Int64)) = if mb x c then 1 else 0 := by
  apply Int64.toBitVec_inj.1
  rw [Int64.toBitVec_and, Int64.toBitVec_shiftRight, mb_shr_ix ⟨c, h⟩]
  apply BitVec.eq_of_getLsbD_eq
  intro i hi
  rw [BitVec.getLsbD_and]
  have h1 : (1 : Int64).toBitVec = 1#64 := rfl
  rw [h1, BitVec.getLsbD_one]
  by_cases h0 : i = 0
  · subst h0
    unfold mb
    have : (BitVec.sshiftRight' x.toBitVec (BitVec.ofNat 64 c)).getLsbD 0 = x.toBitVec.getLsbD c := by
      rw [BitVec.sshiftRight', BitVec.getLsbD_sshiftRight]
      have hc : (BitVec.ofNat 64 c).toNat = c := by rw [BitVec.toNat_ofNat]; omega
      rw [hc]
      simp [h]
    rw [this]
    cases x.toBitVec.getLsbD c <;> simp
  · have : decide (0 = i) = false := decide_eq_false (fun q => h0 q.symm)
    unfold mb
    cases x.toBitVec.getLsbD c <;> simp [h0]
theorem mb_nat (x : Int64) (c : Nat) : mb x c = x.toBitVec.toNat.testBit c := by unfold mb; exact (BitVec.testBit_toNat _).symm
theorem nat_low (n : Nat) (h : n ≠ 0) : ∃ k, n.testBit k = true ∧ ∀ j, j < k → n.testBit j = false := by
  obtain ⟨k, hk⟩ := Nat.exists_testBit_of_ne_zero h
  induction k using Nat.strongRecOn with
  | _ k ih =>
    by_cases q : ∃ j, j < k ∧ n.testBit j = true
    · obtain ⟨j, hj, h2⟩ := q
      exact ih j hj h2
    · refine ⟨k, hk, fun j hj => ?_⟩
      cases hb : n.testBit j with
      | false => rfl
      | true => exact absurd ⟨j, hj, hb⟩ q
theorem nat_low_dec {n k : Nat} (hk : n.testBit k = true) (hl : ∀ j, j < k → n.testBit j = false) : ∃ m, n = 2 ^ (k + 1) * m + 2 ^ k := by
  have h0 : n % 2 ^ k = 0 := by
    apply Nat.eq_of_testBit_eq
    intro i
    rw [Nat.testBit_mod_two_pow, Nat.zero_testBit]
    by_cases hi : i < k
    · rw [hl i hi]; exact Bool.and_false _
    · simp [hi]
  have h1 : (n / 2 ^ k).testBit 0 = true := by rw [Nat.testBit_div_two_pow]; simpa using hk
  rw [Nat.testBit_zero] at h1
  have h2 : n / 2 ^ k % 2 = 1 := of_decide_eq_true h1
  refine ⟨n / 2 ^ k / 2, ?_⟩
  have h3 := Nat.div_add_mod n (2 ^ k)
  have h4 := Nat.div_add_mod (n / 2 ^ k) 2
  rw [h0, Nat.add_zero] at h3
  rw [h2] at h4
  conv => lhs; rw [← h3, ← h4]
  rw [Nat.mul_add, Nat.mul_one, ← Nat.mul_assoc, Nat.pow_succ]
theorem nat_pred_bits {k m : Nat} (j : Nat) : (2 ^ (k + 1) * m + 2 ^ k - 1).testBit j = if j < k then true else if j = k then false else (2 ^ (k + 1) * m + 2 ^ k).testBit j := by
  have hp : 0 < 2 ^ k := Nat.two_pow_pos k
  have e : 2 ^ (k + 1) * m + 2 ^ k - 1 = 2 ^ (k + 1) * m + (2 ^ k - 1) := by omega
  have l1 : 2 ^ k - 1 < 2 ^ (k + 1) := by rw [Nat.pow_succ]; omega
  have l2 : 2 ^ k < 2 ^ (k + 1) := by rw [Nat.pow_succ]; omega
  rw [e, Nat.testBit_two_pow_mul_add _ l1, Nat.testBit_two_pow_mul_add _ l2]
  by_cases h1 : j < k
  · rw [if_pos (by omega), if_pos h1, Nat.testBit_two_pow_sub_one]; exact decide_eq_true h1
  · rw [if_neg h1]
    by_cases h2 : j = k
    · rw [if_pos h2, if_pos (by omega), Nat.testBit_two_pow_sub_one]; exact decide_eq_false (by omega)
    · rw [if_neg h2, if_neg (by omega), if_neg (by omega)]
theorem mb_pred {x : Int64} {k : Nat} (hk : mb x k = true) (hl : ∀ j, j < k → mb x j = false) (j : Nat) (hj : j < 64) : mb (x - 1) j = if j < k then true else if j = k then false else mb x j := by
  rw [mb_nat] at hk
  simp only [mb_nat] at hl
  obtain ⟨m, hm⟩ := nat_low_dec hk hl
  have hp : 0 < 2 ^ k := Nat.two_pow_pos k
  have e : (x - 1).toBitVec.toNat = x.toBitVec.toNat - 1 := by
    rw [Int64.toBitVec_sub, BitVec.toNat_sub]
    have h1 : (1 : Int64).toBitVec.toNat = 1 := rfl
    have hx := x.toBitVec.isLt
    rw [h1]
    omega
  rw [mb_nat, mb_nat, e, hm, nat_pred_bits]
theorem mb_lowclr {x : Int64} {k : Nat} (hk : mb x k = true) (hl : ∀ j, j < k → mb x j = false) (j : Nat) : mb (x &&& (x - 1)) j = (mb x j && !(decide (j = k))) := by
  rcases Nat.lt_or_ge j 64 with hj | hj
  · rw [mb_and, mb_pred hk hl j hj]
    by_cases h1 : j < k
    · rw [hl j h1]; rfl
    · by_cases h2 : j = k
      · simp [h2]
      · simp [h1, h2]
  · rw [mb_hi _ _ hj, mb_hi _ _ hj]; rfl
theorem mb_neg_eq (x : Int64) : -x = (x - 1) ^^^ (-1) := by
  apply Int64.toBitVec_inj.1
  rw [Int64.toBitVec_neg, Int64.toBitVec_xor, Int64.toBitVec_sub]
  rw [show (-1 : Int64).toBitVec = BitVec.allOnes 64 from rfl, BitVec.xor_allOnes, show Int64.toBitVec 1 = 1#64 from rfl, BitVec.not_sub_one_eq_not_add_one]
  rw [BitVec.neg_eq_not_add]
theorem mb_lowbit {x : Int64} {k : Nat} (hk : mb x k = true) (hl : ∀ j, j < k → mb x j = false) : x &&& (-x) = mbit k := by
  apply mb_ext
  intro j hj
  rw [mb_and, mb_neg_eq, mb_cpl _ _ hj, mb_pred hk hl j hj, mb_bit k j (mb_lt hk)]
  by_cases h1 : j < k
  · rw [hl j h1]; simp; omega
  · by_cases h2 : j = k
    · subst h2; simp [hk]
    · simp [h1, h2]; omega
theorem mb_low_ex {x : Int64} (h : x ≠ 0) : ∃ k, mb x k = true ∧ ∀ j, j < k → mb x j = false := by
  have : x.toBitVec.toNat ≠ 0 := by
    intro q
    apply h
    apply mb_ext
    intro c hc
    rw [mb_nat, q, mb_zero, Nat.zero_testBit]
  obtain ⟨k, h1, h2⟩ := nat_low _ this
  exact ⟨k, by rw [mb_nat]; exact h1, fun j hj => by rw [mb_nat]; exact h2 j hj⟩
/-! the count of bits, by bytes -/
def n5 (M n : Nat) : Nat := n - ((n / 2) &&& M)
def n3 (M n : Nat) : Nat := (n &&& M) + ((n / 4) &&& M)
def nf (M n : Nat) : Nat := (n + n / 16) &&& M
theorem nland_blk (a b M m : Nat) (hb : b < 256) (hm : m < 256) : (256 * a + b) &&& (256 * M + m) = 256 * (a &&& M) + (b &&& m) := by
  have hbm : b &&& m < 2 ^ 8 := Nat.and_lt_two_pow _ hm
  apply Nat.eq_of_testBit_eq
  intro i
  rw [Nat.testBit_and, show 256 = 2 ^ 8 from rfl, Nat.testBit_two_pow_mul_add _ (show b < 2 ^ 8 from hb), Nat.testBit_two_pow_mul_add _ (show m < 2 ^ 8 from hm), Nat.testBit_two_pow_mul_add _ hbm]
  by_cases h : i < 8
  · rw [if_pos h, if_pos h, if_pos h, Nat.testBit_and]
  · rw [if_neg h, if_neg h, if_neg h, Nat.testBit_and]
theorem n5_low : ∀ r : Fin 2, ∀ b : Fin 256, (128 * r.1 + b.1 / 2) &&& 85 = (b.1 / 2) &&& 85 ∧ (b.1 / 2) &&& 85 ≤ b.1 := by decide +kernel
theorem n3_low : ∀ r : Fin 4, ∀ b : Fin 256, (64 * r.1 + b.1 / 4) &&& 51 = (b.1 / 4) &&& 51 := by decide +kernel
theorem n5_blk (a b M : Nat) (hb : b < 256) : n5 (256 * M + 85) (256 * a + b) = 256 * n5 M a + n5 85 b := by
  unfold n5
  have e : (256 * a + b) / 2 = 256 * (a / 2) + (128 * (a % 2) + b / 2) := by omega
  have l := n5_low ⟨a % 2, Nat.mod_lt _ (by decide)⟩ ⟨b, hb⟩
  dsimp only at l
  rw [e, nland_blk _ _ _ _ (by omega) (by decide), l.1]
  have l2 : (a / 2) &&& M ≤ a := Nat.le_trans Nat.and_le_left (Nat.div_le_self _ _)
  omega
theorem n3_blk (a b M : Nat) (hb : b < 256) : n3 (256 * M + 51) (256 * a + b) = 256 * n3 M a + n3 51 b := by
  unfold n3
  have e : (256 * a + b) / 4 = 256 * (a / 4) + (64 * (a % 4) + b / 4) := by omega
  have l := n3_low ⟨a % 4, Nat.mod_lt _ (by decide)⟩ ⟨b, hb⟩
  dsimp only at l
  rw [e, nland_blk _ _ _ _ hb (by decide), nland_blk _ _ _ _ (by omega) (by decide), l]
  omega
/-- every byte's low half at most 4, high half at most 4 -/
theorem nf_low : ∀ r : Fin 5, ∀ q : Fin 5, ∀ s : Fin 5, (q.1 * 16 + s.1 + (16 * r.1 + q.1)) &&& 15 = (q.1 + s.1) ∧ (q.1 * 16 + s.1 + q.1) &&& 15 = q.1 + s.1 := by decide +kernel
theorem nf_blk (a b M : Nat) (h1 : b % 16 ≤ 4) (h2 : b / 16 ≤ 4) (h3 : a % 16 ≤ 4) : nf (256 * M + 15) (256 * a + b) = 256 * nf M a + (b / 16 + b % 16) := by
  unfold nf
  have e : (256 * a + b) + (256 * a + b) / 16 = 256 * (a + a / 16) + (b / 16 * 16 + b % 16 + (16 * (a % 16) + b / 16)) := by omega
  have l := nf_low ⟨a % 16, by omega⟩ ⟨b / 16, by omega⟩ ⟨b % 16, by omega⟩
  dsimp only at l
  rw [e, nland_blk _ _ _ _ (by omega) (by decide), l.1]
def pc8 (b : Nat) : Nat := b % 2 + b / 2 % 2 + b / 4 % 2 + b / 8 % 2 + b / 16 % 2 + b / 32 % 2 + b / 64 % 2 + b / 128 % 2
theorem n53_low : ∀ b : Fin 256, n3 51 (n5 85 b.1) % 16 ≤ 4 ∧ n3 51 (n5 85 b.1) / 16 ≤ 4 ∧ n3 51 (n5 85 b.1) / 16 + n3 51 (n5 85 b.1) % 16 = pc8 b.1 ∧ n5 85 b.1 < 256 ∧ n3 51 (n5 85 b.1) < 256 := by decide +kernel
/-- masks of i bytes -/
def nmask (m : Nat) : Nat → Nat
  | 0 => 0
  | i + 1 => 256 * nmask m i + m
def nfull (i n : Nat) : Nat := nf (nmask 15 i) (n3 (nmask 51 i) (n5 (nmask 85 i) n))
theorem n53_blk (i a b : Nat) (hb : b < 256) : n3 (nmask 51 (i + 1)) (n5 (nmask 85 (i + 1)) (256 * a + b)) = 256 * n3 (nmask 51 i) (n5 (nmask 85 i) a) + n3 51 (n5 85 b) := by
  show n3 (256 * nmask 51 i + 51) (n5 (256 * nmask 85 i + 85) (256 * a + b)) = _
  rw [n5_blk _ _ _ hb, n3_blk _ _ _ (n53_low ⟨b, hb⟩).2.2.2.1]
theorem n53_mod (i : Nat) (a : Nat) (h : a < 256 ^ i) : n3 (nmask 51 i) (n5 (nmask 85 i) a) % 16 ≤ 4 := by
  cases i with
  | zero => 
    have : a = 0 := by omega
    subst this; decide
  | succ i =>
    have := Nat.div_add_mod a 256
    rw [← this, n53_blk i _ _ (Nat.mod_lt _ (by decide))]
    have l := (n53_low ⟨a % 256, Nat.mod_lt _ (by decide)⟩).1
    dsimp only at l
    omega
theorem nfull_blk (i a b : Nat) (hb : b < 256) (ha : a < 256 ^ i) : nfull (i + 1) (256 * a + b) = 256 * nfull i a + pc8 b := by
  unfold nfull
  rw [n53_blk i a b hb]
  have l := n53_low ⟨b, hb⟩
  dsimp only at l
  show nf (256 * nmask 15 i + 15) _ = _
  rw [nf_blk _ _ _ l.1 l.2.1 (n53_mod i a ha), l.2.2.1]

theorem nfull_8 (n : Nat) (h : n < 2 ^ 64) : ∃ c0 c1 c2 c3 c4 c5 c6 c7, nfull 8 n = c0 + 256 * (c1 + 256 * (c2 + 256 * (c3 + 256 * (c4 + 256 * (c5 + 256 * (c6 + 256 * c7)))))) ∧ c0 = pc8 (n % 256) ∧ c1 = pc8 (n / 256 % 256) ∧ c2 = pc8 (n / 256 / 256 % 256) ∧ c3 = pc8 (n / 256 / 256 / 256 % 256) ∧ c4 = pc8 (n / 256 / 256 / 256 / 256 % 256) ∧ c5 = pc8 (n / 256 / 256 / 256 / 256 / 256 % 256) ∧ c6 = pc8 (n / 256 / 256 / 256 / 256 / 256 / 256 % 256) ∧ c7 = pc8 (n / 256 / 256 / 256 / 256 / 256 / 256 / 256) := by
  refine ⟨_, _, _, _, _, _, _, _, ?_, rfl, rfl, rfl, rfl, rfl, rfl, rfl, rfl⟩
  have st : ∀ i m, m < 256 ^ (i + 1) → nfull (i + 1) m = 256 * nfull i (m / 256) + pc8 (m % 256) := by
    intro i m hm
    have := Nat.div_add_mod m 256
    conv => lhs; rw [← this]
    exact nfull_blk i _ _ (Nat.mod_lt _ (by decide)) (by rw [Nat.pow_succ] at hm; exact Nat.div_lt_of_lt_mul (by omega))
  have z : nfull 0 (n / 256 / 256 / 256 / 256 / 256 / 256 / 256 / 256) = 0 := by
    have : n / 256 / 256 / 256 / 256 / 256 / 256 / 256 / 256 = 0 := by omega
    rw [this]; decide
  rw [st 7 _ (by omega), st 6 _ (by omega), st 5 _ (by omega), st 4 _ (by omega), st 3 _ (by omega), st 2 _ (by omega), st 1 _ (by omega), st 0 _ (by omega), z]
  have : n / 256 / 256 / 256 / 256 / 256 / 256 / 256 % 256 = n / 256 / 256 / 256 / 256 / 256 / 256 / 256 := by omega
  rw [this]
  omega
def ncnt (n : Nat) : Nat → Nat
  | 0 => 0
  | k + 1 => ncnt n k + (n.testBit k).toNat
theorem pc8_le (b : Nat) : pc8 b ≤ 8 := by unfold pc8; omega
theorem ndc (c t : Nat) (h : c < 256) : (c + 256 * t) / 256 = t := by omega
theorem nfin4 (c0 c1 c2 c3 c4 c5 c6 c7 : Nat) (l0 : c0 < 256) (l1 : c1 < 256) (l2 : c2 < 256) (l3 : c3 < 256) (s t : Nat) (h : s = c0 + 256 * (c1 + 256 * (c2 + 256 * (c3 + 256 * (c4 + 256 * (c5 + 256 * (c6 + 256 * c7))))))) (ht : t = s + s / 4294967296) : t = c0 + c4 + 256 * (c1 + c5 + 256 * (c2 + c6 + 256 * (c3 + c7 + 256 * (c4 + 256 * (c5 + 256 * (c6 + 256 * c7)))))) := by
  rw [show 4294967296 = 256 * 256 * 256 * 256 from rfl, ← Nat.div_div_eq_div_mul, ← Nat.div_div_eq_div_mul, ← Nat.div_div_eq_div_mul] at ht
  have e : s / 256 / 256 / 256 / 256 = c4 + 256 * (c5 + 256 * (c6 + 256 * c7)) := by
    rw [h, ndc _ _ l0, ndc _ _ l1, ndc _ _ l2, ndc _ _ l3]
  rw [e, h] at ht
  rw [ht]
  clear e ht h
  omega
theorem nfin2 (c0 c1 c2 c3 c4 c5 c6 c7 : Nat) (l0 : c0 < 256) (l1 : c1 < 256) (s t : Nat) (h : s = c0 + 256 * (c1 + 256 * (c2 + 256 * (c3 + 256 * (c4 + 256 * (c5 + 256 * (c6 + 256 * c7))))))) (ht : t = s + s / 65536) : t = c0 + c2 + 256 * (c1 + c3 + 256 * (c2 + c4 + 256 * (c3 + c5 + 256 * (c4 + c6 + 256 * (c5 + c7 + 256 * (c6 + 256 * c7)))))) := by
  rw [show 65536 = 256 * 256 from rfl, ← Nat.div_div_eq_div_mul] at ht
  have e : s / 256 / 256 = c2 + 256 * (c3 + 256 * (c4 + 256 * (c5 + 256 * (c6 + 256 * c7)))) := by
    rw [h, ndc _ _ l0, ndc _ _ l1]
  rw [e, h] at ht
  rw [ht]
  clear e ht h
  omega
theorem nfin1 (c0 c1 c2 c3 c4 c5 c6 c7 : Nat) (l0 : c0 < 256) (s t : Nat) (h : s = c0 + 256 * (c1 + 256 * (c2 + 256 * (c3 + 256 * (c4 + 256 * (c5 + 256 * (c6 + 256 * c7))))))) (ht : t = s + s / 256) : t = c0 + c1 + 256 * (c1 + c2 + 256 * (c2 + c3 + 256 * (c3 + c4 + 256 * (c4 + c5 + 256 * (c5 + c6 + 256 * (c6 + c7 + 256 * c7)))))) := by
  have e : s / 256 = c1 + 256 * (c2 + 256 * (c3 + 256 * (c4 + 256 * (c5 + 256 * (c6 + 256 * c7))))) := by
    rw [h, ndc _ _ l0]
  rw [e, h] at ht
  rw [ht]
  clear e ht h
  omega
theorem nbd (c t m : Nat) (hc : c < 256) (ht : t < m) : c + 256 * t < 256 * m := by omega
theorem nbd8 (s c0 c1 c2 c3 c4 c5 c6 c7 : Nat) (h : s = c0 + 256 * (c1 + 256 * (c2 + 256 * (c3 + 256 * (c4 + 256 * (c5 + 256 * (c6 + 256 * c7))))))) (l0 : c0 < 256) (l1 : c1 < 256) (l2 : c2 < 256) (l3 : c3 < 256) (l4 : c4 < 256) (l5 : c5 < 256) (l6 : c6 < 256) (l7 : c7 < 256) : s < 18446744073709551616 := by
  rw [h]
  exact nbd _ _ 72057594037927936 l0 (nbd _ _ 281474976710656 l1 (nbd _ _ 1099511627776 l2 (nbd _ _ 4294967296 l3 (nbd _ _ 16777216 l4 (nbd _ _ 65536 l5 (nbd _ _ 256 l6 l7))))))
theorem nfin (c0 c1 c2 c3 c4 c5 c6 c7 s3 s4 s5 s6 : Nat) (h : s3 = c0 + 256 * (c1 + 256 * (c2 + 256 * (c3 + 256 * (c4 + 256 * (c5 + 256 * (c6 + 256 * c7))))))) (l0 : c0 ≤ 8) (l1 : c1 ≤ 8) (l2 : c2 ≤ 8) (l3 : c3 ≤ 8) (l4 : c4 ≤ 8) (l5 : c5 ≤ 8) (l6 : c6 ≤ 8) (l7 : c7 ≤ 8) (h4 : s4 = s3 + s3 / 256) (h5 : s5 = s4 + s4 / 65536) (h6 : s6 = s5 + s5 / 4294967296) : s6 % 128 = c0 + c1 + c2 + c3 + c4 + c5 + c6 + c7 ∧ s6 < 18446744073709551616 ∧ s5 < 18446744073709551616 ∧ s4 < 18446744073709551616 ∧ s3 < 18446744073709551616 := by
  have q0 : c0 < 256 := by clear h h4 h5 h6; omega
  have q1 : c0 + c1 < 256 ∧ c1 + c2 < 256 := by clear h h4 h5 h6; omega
  have q2 : c0 + c1 + (c2 + c3) < 256 ∧ c1 + c2 + (c3 + c4) < 256 ∧ c2 + c3 + (c4 + c5) < 256 ∧ c3 + c4 + (c5 + c6) < 256 := by clear h h4 h5 h6; omega
  have e4 := nfin1 c0 c1 c2 c3 c4 c5 c6 c7 q0 s3 s4 h h4
  have e5 := nfin2 _ _ _ _ _ _ _ _ q1.1 q1.2 s4 s5 e4 h5
  have e6 := nfin4 _ _ _ _ _ _ _ _ q2.1 q2.2.1 q2.2.2.1 q2.2.2.2 s5 s6 e5 h6
  refine ⟨?_, nbd8 _ _ _ _ _ _ _ _ _ e6 ?_ ?_ ?_ ?_ ?_ ?_ ?_ ?_, nbd8 _ _ _ _ _ _ _ _ _ e5 ?_ ?_ ?_ ?_ ?_ ?_ ?_ ?_, nbd8 _ _ _ _ _ _ _ _ _ e4 ?_ ?_ ?_ ?_ ?_ ?_ ?_ ?_, nbd8 _ _ _ _ _ _ _ _ _ h ?_ ?_ ?_ ?_ ?_ ?_ ?_ ?_⟩
  · rw [e6]
    clear e6 e5 e4 h h4 h5 h6
    omega
  all_goals (clear e6 e5 e4 h h4 h5 h6; omega)
theorem ncnt_byte (n k : Nat) : ncnt n (k + 8) = ncnt n k + pc8 (n / 2 ^ k % 256) := by
  have t : ∀ i, (n.testBit (k + i)).toNat = n / 2 ^ k / 2 ^ i % 2 := by
    intro i
    rw [Nat.testBit_eq_decide_div_mod_eq, Nat.pow_add, ← Nat.div_div_eq_div_mul]
    rcases Nat.mod_two_eq_zero_or_one (n / 2 ^ k / 2 ^ i) with q | q <;> rw [q] <;> rfl
  show ncnt n k + (n.testBit (k + 0)).toNat + (n.testBit (k + 1)).toNat + (n.testBit (k + 2)).toNat + (n.testBit (k + 3)).toNat + (n.testBit (k + 4)).toNat + (n.testBit (k + 5)).toNat + (n.testBit (k + 6)).toNat + (n.testBit (k + 7)).toNat = _
  simp only [t]
  unfold pc8
  generalize n / 2 ^ k = m
  omega
theorem ncnt_64 (n : Nat) : ncnt n 64 = pc8 (n % 256) + pc8 (n / 256 % 256) + pc8 (n / 256 / 256 % 256) + pc8 (n / 256 / 256 / 256 % 256) + pc8 (n / 256 / 256 / 256 / 256 % 256) + pc8 (n / 256 / 256 / 256 / 256 / 256 % 256) + pc8 (n / 256 / 256 / 256 / 256 / 256 / 256 % 256) + pc8 (n / 256 / 256 / 256 / 256 / 256 / 256 / 256 % 256) := by
  rw [ncnt_byte n 56, ncnt_byte n 48, ncnt_byte n 40, ncnt_byte n 32, ncnt_byte n 24, ncnt_byte n 16, ncnt_byte n 8, ncnt_byte n 0]
  simp only [Nat.div_div_eq_div_mul]
  show 0 + _ + _ + _ + _ + _ + _ + _ + _ = _
  rw [Nat.zero_add]
  rw [show 2 ^ 0 = 1 from rfl, Nat.div_one]
def tn (x : Int64) : Nat := x.toBitVec.toNat
theorem tn_lt (x : Int64) : tn x < 2 ^ 64 := x.toBitVec.isLt
theorem tn_and (x y : Int64) : tn (x &&& y) = tn x &&& tn y := by unfold tn; rw [Int64.toBitVec_and, BitVec.toNat_and]
theorem tn_add (x y : Int64) (h : tn x + tn y < 2 ^ 64) : tn (x + y) = tn x + tn y := by
  unfold tn at *; rw [Int64.toBitVec_add, BitVec.toNat_add, Nat.mod_eq_of_lt h]
theorem tn_sub (x y : Int64) (h : tn y ≤ tn x) : tn (x - y) = tn x - tn y := by
  have := tn_lt x
  unfold tn at *; rw [Int64.toBitVec_sub, BitVec.toNat_sub]; omega
theorem tn_shr (x : Int64) (c : UInt64) : tn ((x.toUInt64 >>> c).toInt64) = tn x / 2 ^ (c.toBitVec % 64).toNat := by
  show ((x.toUInt64 >>> c).toBitVec).toNat = _
  rw [UInt64.toBitVec_shiftRight, BitVec.ushiftRight_eq', BitVec.toNat_ushiftRight, Nat.shiftRight_eq_div_pow]
  rfl
def bu5 (x : Int64) : Int64 := (x - (((x.toUInt64 >>> ((1 : Int32).toInt64.toUInt64 &&& Int64.toUInt64 63)).toInt64) &&& (6148914691236517205 : Int64)))
def bu3 (y : Int64) : Int64 := ((y &&& (3689348814741910323 : Int64)) + (((y.toUInt64 >>> ((2 : Int32).toInt64.toUInt64 &&& Int64.toUInt64 63)).toInt64) &&& (3689348814741910323 : Int64)))
def buf (z : Int64) : Int64 := ((z + ((z.toUInt64 >>> ((4 : Int32).toInt64.toUInt64 &&& Int64.toUInt64 63)).toInt64)) &&& (1085102592571150095 : Int64))
def ba1 (w : Int64) : Int64 := (w + ((w.toUInt64 >>> ((8 : Int32).toInt64.toUInt64 &&& Int64.toUInt64 63)).toInt64))
def ba2 (w : Int64) : Int64 := (w + ((w.toUInt64 >>> ((16 : Int32).toInt64.toUInt64 &&& Int64.toUInt64 63)).toInt64))
def ba3 (w : Int64) : Int64 := (w + ((w.toUInt64 >>> ((32 : Int32).toInt64.toUInt64 &&& Int64.toUInt64 63)).toInt64))
theorem tn_s1 (x : Int64) : tn ((x.toUInt64 >>> ((1 : Int32).toInt64.toUInt64 &&& Int64.toUInt64 63)).toInt64) = tn x / 2 := tn_shr x _
theorem tn_s2 (x : Int64) : tn ((x.toUInt64 >>> ((2 : Int32).toInt64.toUInt64 &&& Int64.toUInt64 63)).toInt64) = tn x / 4 := tn_shr x _
theorem tn_s4 (x : Int64) : tn ((x.toUInt64 >>> ((4 : Int32).toInt64.toUInt64 &&& Int64.toUInt64 63)).toInt64) = tn x / 16 := tn_shr x _
theorem tn_s8 (x : Int64) : tn ((x.toUInt64 >>> ((8 : Int32).toInt64.toUInt64 &&& Int64.toUInt64 63)).toInt64) = tn x / 256 := tn_shr x _
theorem tn_s16 (x : Int64) : tn ((x.toUInt64 >>> ((16 : Int32).toInt64.toUInt64 &&& Int64.toUInt64 63)).toInt64) = tn x / 65536 := tn_shr x _
theorem tn_s32 (x : Int64) : tn ((x.toUInt64 >>> ((32 : Int32).toInt64.toUInt64 &&& Int64.toUInt64 63)).toInt64) = tn x / 4294967296 := tn_shr x _
theorem tn_u5 (x : Int64) : tn (bu5 x) = n5 (nmask 85 8) (tn x) := by
  unfold bu5
  have e : tn ((((x.toUInt64 >>> ((1 : Int32).toInt64.toUInt64 &&& Int64.toUInt64 63)).toInt64) &&& (6148914691236517205 : Int64))) = (tn x / 2) &&& nmask 85 8 := by
    rw [tn_and, tn_s1]; rfl
  have l : (tn x / 2) &&& nmask 85 8 ≤ tn x := Nat.le_trans Nat.and_le_left (Nat.div_le_self _ _)
  rw [tn_sub _ _ (by rw [e]; exact l), e]
  rfl
theorem tn_u3 (y : Int64) : tn (bu3 y) = n3 (nmask 51 8) (tn y) := by
  unfold bu3
  have e1 : tn (y &&& (3689348814741910323 : Int64)) = tn y &&& nmask 51 8 := by rw [tn_and]; rfl
  have e2 : tn ((((y.toUInt64 >>> ((2 : Int32).toInt64.toUInt64 &&& Int64.toUInt64 63)).toInt64) &&& (3689348814741910323 : Int64))) = (tn y / 4) &&& nmask 51 8 := by
    rw [tn_and, tn_s2]; rfl
  have l1 : tn y &&& nmask 51 8 ≤ nmask 51 8 := Nat.and_le_right
  have l2 : (tn y / 4) &&& nmask 51 8 ≤ nmask 51 8 := Nat.and_le_right
  have l3 : nmask 51 8 = 3689348814741910323 := rfl
  rw [tn_add _ _ (by rw [e1, e2]; omega), e1, e2]
  rfl
theorem tn_uf (z : Int64) (h : tn z ≤ 9838263505978427528) : tn (buf z) = nf (nmask 15 8) (tn z) := by
  unfold buf
  rw [tn_and, tn_add _ _ (by rw [tn_s4]; omega), tn_s4]
  rfl
theorem n3_le (n : Nat) : n3 (nmask 51 8) n ≤ 7378697629483820646 := by
  unfold n3
  have l1 : n &&& nmask 51 8 ≤ nmask 51 8 := Nat.and_le_right
  have l2 : (n / 4) &&& nmask 51 8 ≤ nmask 51 8 := Nat.and_le_right
  have l3 : nmask 51 8 = 3689348814741910323 := rfl
  omega
theorem tn_count (x : Int64) : tn (ba3 (ba2 (ba1 (buf (bu3 (bu5 x)))))) % 128 = ncnt (tn x) 64 := by
  have ef : tn (buf (bu3 (bu5 x))) = nfull 8 (tn x) := by
    rw [tn_uf _ (by rw [tn_u3]; exact Nat.le_trans (n3_le _) (by decide)), tn_u3, tn_u5]
    rfl
  obtain ⟨c0, c1, c2, c3, c4, c5, c6, c7, h, h0, h1, h2, h3, h4, h5, h6, h7⟩ := nfull_8 (tn x) (tn_lt x)
  have l : ∀ b, pc8 b ≤ 8 := pc8_le
  have F := nfin c0 c1 c2 c3 c4 c5 c6 c7 (nfull 8 (tn x)) _ _ _ h (h0 ▸ l _) (h1 ▸ l _) (h2 ▸ l _) (h3 ▸ l _) (h4 ▸ l _) (h5 ▸ l _) (h6 ▸ l _) (h7 ▸ l _) rfl rfl rfl
  have e1 : tn (ba1 (buf (bu3 (bu5 x)))) = nfull 8 (tn x) + nfull 8 (tn x) / 256 := by
    unfold ba1
    rw [tn_add _ _ (by rw [tn_s8, ef]; exact F.2.2.2.1), tn_s8, ef]
  have e2 : tn (ba2 (ba1 (buf (bu3 (bu5 x))))) = (nfull 8 (tn x) + nfull 8 (tn x) / 256) + (nfull 8 (tn x) + nfull 8 (tn x) / 256) / 65536 := by
    show tn (_ + _) = _
    rw [tn_add _ _ (by rw [tn_s16, e1]; exact F.2.2.1), tn_s16, e1]
  have e3 : ∀ w s, tn w = s → s + s / 4294967296 < 18446744073709551616 → tn (ba3 w) = s + s / 4294967296 := by
    intro w s h1 h2
    unfold ba3
    rw [tn_add _ _ (by rw [tn_s32, h1]; exact h2), tn_s32, h1]
  rw [e3 _ _ e2 F.2.1, F.1, ncnt_64, h0, h1, h2, h3, h4, h5, h6, h7]
  have : tn x / 256 / 256 / 256 / 256 / 256 / 256 / 256 % 256 = tn x / 256 / 256 / 256 / 256 / 256 / 256 / 256 := by
    have := tn_lt x; omega
  rw [this]
def mcnt (x : Int64) : Nat := ncnt (tn x) 64
theorem mcnt_le (x : Int64) : mcnt x ≤ 64 := by
  have : ∀ n k, ncnt n k ≤ k := by
    intro n k
    induction k with
    | zero => exact Nat.le_refl _
    | succ k ih => unfold ncnt; have := Bool.toNat_le (n.testBit k); omega
  exact this _ _
theorem tn_127 (w : Int64) : w.toInt32 &&& (127 : Int32) = i32 (tn w % 128) := by
  apply Int32.toBitVec_inj.1
  rw [Int32.toBitVec_and, Int64.toBitVec_toInt32]
  apply BitVec.eq_of_toNat_eq
  rw [BitVec.toNat_and, BitVec.signExtend_eq_setWidth_of_le _ (by decide), BitVec.toNat_setWidth]
  show (tn w % 2 ^ 32) &&& (2 ^ 7 - 1) = _
  rw [Nat.and_two_pow_sub_one_eq_mod]
  show _ = (tn w % 128) % 2 ^ 32
  omega
theorem mcnt_form (x : Int64) : (ba3 (ba2 (ba1 (buf (bu3 (bu5 x)))))).toInt32 &&& (127 : Int32) = i32 (mcnt x) := by
  rw [tn_127, tn_count]; rfl

