/-! the lowest bit; small leaves -/
def mlo (x : Int64) : Nat := ((List.range 64).find? (fun c => mb x c)).getD 64
theorem mlo_of {x : Int64} {k : Nat} (hk : mb x k = true) (hl : ∀ j, j < k → mb x j = false) : mlo x = k := by
  unfold mlo
  have h : (List.range 64).find? (fun c => mb x c) = some k := by
    rw [List.find?_range_eq_some]
    refine ⟨hk, List.mem_range.2 (mb_lt hk), fun j hj => ?_⟩
    rw [hl j hj]; rfl
  rw [h]; rfl
theorem mlo_zero : mlo 0 = 64 := by decide
theorem mlo_mb {x : Int64} (h : x ≠ 0) : mb x (mlo x) = true := by
  obtain ⟨k, h1, h2⟩ := mb_low_ex h
  rw [mlo_of h1 h2]; exact h1
theorem mlo_min {x : Int64} {j : Nat} (h : j < mlo x) : mb x j = false := by
  by_cases h0 : x = 0
  · subst h0; exact mb_zero j
  · obtain ⟨k, h1, h2⟩ := mb_low_ex h0
    rw [mlo_of h1 h2] at h
    exact h2 j h
theorem mlo_le {x : Int64} {j : Nat} (h : mb x j = true) : mlo x ≤ j := by
  rcases Nat.lt_or_ge j (mlo x) with q | q
  · rw [mlo_min q] at h; cases h
  · exact q
theorem mne_of {x : Int64} {j : Nat} (h : mb x j = true) : x ≠ 0 := by
  rintro rfl; rw [mb_zero] at h; cases h
theorem mlo_bit {x : Int64} (h : x ≠ 0) : x &&& (-x) = mbit (mlo x) := mb_lowbit (mlo_mb h) (fun _ hj => mlo_min hj)
theorem mlo_clr {x : Int64} (h : x ≠ 0) (j : Nat) : mb (x &&& (x - 1)) j = (mb x j && !(decide (j = mlo x))) := mb_lowclr (mlo_mb h) (fun _ hj => mlo_min hj) j
theorem mlo_lt {x : Int64} (h : x ≠ 0) : mlo x < 64 := mb_lt (mlo_mb h)
theorem mcnt_pred : ∀ k : Fin 64, mcnt (mbit k.1 - 1) = k.1 := by decide +kernel
theorem mcnt_low (x : Int64) : mcnt ((x &&& (-x)) - 1) = mlo x := by
  by_cases h : x = 0
  · subst h; rw [mlo_zero]; decide +kernel
  · rw [mlo_bit h]; exact mcnt_pred ⟨mlo x, mlo_lt h⟩
def bi (b : Bool) : Int32 := if b then 1 else 0
theorem bi_t : bi true = 1 := rfl
theorem bi_f : bi false = 0 := rfl
theorem sp_bitCount (S : mm_S) (x : Int64) : f_J13_bitCount_95d88 [.long x] S = some (.inl (some (.int (i32 (mcnt x)))), S) := by
  rw [en_J13_bitCount_95d88, sg_J13_bitCount_95d88_0, ← mcnt_form]
  rfl
theorem sp_has (S : mm_S) (x : Int64) {c : Nat} (hc : c < 64) : f_X10_has [.long x, .int (i32 c)] S = some (.inl (some (.int (bi (mb x c)))), S) := by
  rw [en_X10_has, sg_X10_has_0, mb_has _ _ hc]
  cases mb x c with
  | true => rw [if_pos rfl, if_neg (by decide), sg_X10_has_15, if_pos (Or.inr rfl)]; rfl
  | false => rw [if_pos (by decide), sg_X10_has_15, if_pos (Or.inl rfl)]; rfl
theorem sp_lowest (S : mm_S) (x : Int64) : f_X10_lowest [.long x] S = some (.inl (some (.int (i32 (mlo x)))), S) := by
  rw [en_X10_lowest, sg_X10_lowest_0, sp_bitCount]
  show mm_run _ (9, _, [.int _], S) = _
  rw [sg_X10_lowest_9, mcnt_low]
theorem sp_isPlayer (S : mm_S) (x : Int32) : f_X10_isPlayer [.int x] S = some (.inl (some (.int (bi (decide (x = 0 ∨ x = 1))))), S) := by
  rw [en_X10_isPlayer, sg_X10_isPlayer_0]
  simp only [sg_X10_isPlayer_9, sg_X10_isPlayer_14]
  by_cases h : x = 0
  · subst h; rfl
  · by_cases h1 : x = 1
    · subst h1; rfl
    · rw [if_neg h, if_neg h1, decide_eq_false (by simp [h, h1])]; rfl
theorem sp_max (S : mm_S) (x y : Int32) : f_J9_max_7cf53 [.int x, .int y] S = some (.inl (some (.int (if x < y then y else x))), S) := by
  rw [en_J9_max_7cf53, sg_J9_max_7cf53_0]
  simp only [sg_J9_max_7cf53_10]
  by_cases h : x < y
  · rw [if_pos h, if_pos h]
  · rw [if_neg h, if_neg h]
theorem sp_min (S : mm_S) (x y : Int32) : f_J9_min_7cf53 [.int x, .int y] S = some (.inl (some (.int (if y < x then y else x))), S) := by
  rw [en_J9_min_7cf53, sg_J9_min_7cf53_0]
  simp only [sg_J9_min_7cf53_10]
  by_cases h : y < x
  · rw [if_pos h, if_pos h]
  · rw [if_neg h, if_neg h]
theorem sp_abs (S : mm_S) (x : Int32) : f_J9_abs_0f7a4 [.int x] S = some (.inl (some (.int (if x < 0 then -x else x))), S) := by
  rw [en_J9_abs_0f7a4, sg_J9_abs_0f7a4_0]
  simp only [sg_J9_abs_0f7a4_10]
  by_cases h : x < 0
  · rw [if_pos h, if_pos h]
  · rw [if_neg h, if_neg h]
def f_bc32 (x0 : Int32) : Int32 := ((((((((x0 - (((x0.toUInt32 >>> ((1 : Int32).toUInt32 &&& Int32.toUInt32 31)).toInt32) &&& (1431655765 : Int32))) &&& (858993459 : Int32)) + ((((x0 - (((x0.toUInt32 >>> ((1 : Int32).toUInt32 &&& Int32.toUInt32 31)).toInt32) &&& (1431655765 : Int32))).toUInt32 >>> ((2 : Int32).toUInt32 &&& Int32.toUInt32 31)).toInt32) &&& (858993459 : Int32))) + (((((x0 - (((x0.toUInt32 >>> ((1 : Int32).toUInt32 &&& Int32.toUInt32 31)).toInt32) &&& (1431655765 : Int32))) &&& (858993459 : Int32)) + ((((x0 - (((x0.toUInt32 >>> ((1 : Int32).toUInt32 &&& Int32.toUInt32 31)).toInt32) &&& (1431655765 : Int32))).toUInt32 >>> ((2 : Int32).toUInt32 &&& Int32.toUInt32 31)).toInt32) &&& (858993459 : Int32))).toUInt32 >>> ((4 : Int32).toUInt32 &&& Int32.toUInt32 31)).toInt32)) &&& (252645135 : Int32)) + (((((((x0 - (((x0.toUInt32 >>> ((1 : Int32).toUInt32 &&& Int32.toUInt32 31)).toInt32) &&& (1431655765 : Int32))) &&& (858993459 : Int32)) + ((((x0 - (((x0.toUInt32 >>> ((1 : Int32).toUInt32 &&& Int32.toUInt32 31)).toInt32) &&& (1431655765 : Int32))).toUInt32 >>> ((2 : Int32).toUInt32 &&& Int32.toUInt32 31)).toInt32) &&& (858993459 : Int32))) + (((((x0 - (((x0.toUInt32 >>> ((1 : Int32).toUInt32 &&& Int32.toUInt32 31)).toInt32) &&& (1431655765 : Int32))) &&& (858993459 : Int32)) + ((((x0 - (((x0.toUInt32 >>> ((1 : Int32).toUInt32 &&& Int32.toUInt32 31)).toInt32) &&& (1431655765 : Int32))).toUInt32 >>> ((2 : Int32).toUInt32 &&& Int32.toUInt32 31)).toInt32) &&& (858993459 : Int32))).toUInt32 >>> ((4 : Int32).toUInt32 &&& Int32.toUInt32 31)).toInt32)) &&& (252645135 : Int32)).toUInt32 >>> ((8 : Int32).toUInt32 &&& Int32.toUInt32 31)).toInt32)) + ((((((((x0 - (((x0.toUInt32 >>> ((1 : Int32).toUInt32 &&& Int32.toUInt32 31)).toInt32) &&& (1431655765 : Int32))) &&& (858993459 : Int32)) + ((((x0 - (((x0.toUInt32 >>> ((1 : Int32).toUInt32 &&& Int32.toUInt32 31)).toInt32) &&& (1431655765 : Int32))).toUInt32 >>> ((2 : Int32).toUInt32 &&& Int32.toUInt32 31)).toInt32) &&& (858993459 : Int32))) + (((((x0 - (((x0.toUInt32 >>> ((1 : Int32).toUInt32 &&& Int32.toUInt32 31)).toInt32) &&& (1431655765 : Int32))) &&& (858993459 : Int32)) + ((((x0 - (((x0.toUInt32 >>> ((1 : Int32).toUInt32 &&& Int32.toUInt32 31)).toInt32) &&& (1431655765 : Int32))).toUInt32 >>> ((2 : Int32).toUInt32 &&& Int32.toUInt32 31)).toInt32) &&& (858993459 : Int32))).toUInt32 >>> ((4 : Int32).toUInt32 &&& Int32.toUInt32 31)).toInt32)) &&& (252645135 : Int32)) + (((((((x0 - (((x0.toUInt32 >>> ((1 : Int32).toUInt32 &&& Int32.toUInt32 31)).toInt32) &&& (1431655765 : Int32))) &&& (858993459 : Int32)) + ((((x0 - (((x0.toUInt32 >>> ((1 : Int32).toUInt32 &&& Int32.toUInt32 31)).toInt32) &&& (1431655765 : Int32))).toUInt32 >>> ((2 : Int32).toUInt32 &&& Int32.toUInt32 31)).toInt32) &&& (858993459 : Int32))) + (((((x0 - (((x0.toUInt32 >>> ((1 : Int32).toUInt32 &&& Int32.toUInt32 31)).toInt32) &&& (1431655765 : Int32))) &&& (858993459 : Int32)) + ((((x0 - (((x0.toUInt32 >>> ((1 : Int32).toUInt32 &&& Int32.toUInt32 31)).toInt32) &&& (1431655765 : Int32))).toUInt32 >>> ((2 : Int32).toUInt32 &&& Int32.toUInt32 31)).toInt32) &&& (858993459 : Int32))).toUInt32 >>> ((4 : Int32).toUInt32 &&& Int32.toUInt32 31)).toInt32)) &&& (252645135 : Int32)).toUInt32 >>> ((8 : Int32).toUInt32 &&& Int32.toUInt32 31)).toInt32)).toUInt32 >>> ((16 : Int32).toUInt32 &&& Int32.toUInt32 31)).toInt32)) &&& (63 : Int32))
theorem bc32_tab : ∀ n : Fin 512, (f_bc32 (i32 n.1)) = i32 (ncnt n.1 9) := by decide +kernel
theorem sp_bitCountI (S : mm_S) {n : Nat} (h : n < 512) : f_J6_bitCount_0f7a4 [.int (i32 n)] S = some (.inl (some (.int (i32 (ncnt n 9)))), S) := by
  rw [en_J6_bitCount_0f7a4, sg_J6_bitCount_0f7a4_0, ← bc32_tab ⟨n, h⟩]
  rfl
/-- a row laid whole -/
def mm_put {α : Type} (f : Nat → Nat → α) (k : Nat) (g : Nat → α) : Nat → Nat → α := fun i j => if i = k then g j else f i j
theorem mm_up_put {α : Type} (f : Nat → Nat → α) (k p : Nat) (v : α) : mm_up f k p v = mm_put f k (fun j => if j = p then v else f k j) := by
  funext i j
  unfold mm_up mm_put
  by_cases h : i = k
  · subst h; rfl
  · rw [if_neg h, if_neg h]
theorem mm_put_put {α : Type} (f : Nat → Nat → α) (k : Nat) (g h : Nat → α) : mm_put (mm_put f k g) k h = mm_put f k h := by
  funext i j
  unfold mm_put
  by_cases q : i = k
  · rw [if_pos q, if_pos q]
  · rw [if_neg q, if_neg q, if_neg q]
theorem mm_put_same {α : Type} (f : Nat → Nat → α) (k : Nat) (g : Nat → α) (j : Nat) : mm_put f k g k j = g j := if_pos rfl
theorem mm_put_ne {α : Type} (f : Nat → Nat → α) (k : Nat) (g : Nat → α) (i j : Nat) (h : i ≠ k) : mm_put f k g i j = f i j := if_neg h
theorem mm_put_id {α : Type} (f : Nat → Nat → α) (k : Nat) : mm_put f k (f k) = f := by
  funext i j
  unfold mm_put
  by_cases q : i = k
  · rw [if_pos q, q]
  · rw [if_neg q]
theorem mm_up_eq {α : Type} (f : Nat → Nat → α) (k p : Nat) (v : α) : mm_up f k p v k p = v := by unfold mm_up; rw [if_pos rfl, if_pos rfl]
theorem mm_up_ne1 {α : Type} (f : Nat → Nat → α) (k p : Nat) (v : α) (i j : Nat) (h : i ≠ k) : mm_up f k p v i j = f i j := by unfold mm_up; rw [if_neg h]
theorem mm_up_ne2 {α : Type} (f : Nat → Nat → α) (k p : Nat) (v : α) (i j : Nat) (h : j ≠ p) : mm_up f k p v i j = f i j := by
  unfold mm_up
  by_cases q : i = k
  · rw [if_pos q, if_neg h]
  · rw [if_neg q]
theorem i32_l (n : Nat) : (@OfNat.ofNat Int32 n _) = i32 (@OfNat.ofNat Nat n _) := id rfl
theorem i32_ix {a : Nat} (h : a < 2147483648) : (i32 a).toInt.toNat = a := by rw [i32_toInt h]; exact Int.toNat_natCast a
theorem i32_in {a : Nat} {n : Int} (ha : a < 2147483648) : (0 ≤ (i32 a).toInt ∧ (i32 a).toInt < n) ↔ (a : Int) < n := by rw [i32_toInt ha]; omega
def iN : Int32 := -1
theorem iN_l : -(i32 1) = iN := id rfl
theorem iN_ne {a : Nat} (h : a < 2147483648) : (i32 a = iN) ↔ False := by
  constructor
  · intro q
    have := congrArg Int32.toInt q
    rw [i32_toInt h] at this
    have e : iN.toInt = -1 := rfl
    omega
  · exact False.elim
theorem iN_lt {a : Nat} (h : a < 2147483648) : (iN < i32 a) ↔ True := by
  rw [Int32.lt_iff_toInt_lt, i32_toInt h]
  have e : iN.toInt = -1 := rfl
  constructor
  · exact fun _ => trivial
  · intro _; omega
theorem iN_nlt {a : Nat} (h : a < 2147483648) : (i32 a < iN) ↔ False := by
  rw [Int32.lt_iff_toInt_lt, i32_toInt h]
  have e : iN.toInt = -1 := rfl
  constructor
  · intro _; omega
  · exact False.elim
theorem mm_aft_v (P : Nat → mm_I) (n : Nat) (L : mm_L) (rest : List Value) (v : Value) (S : mm_S) : mm_aft P n L rest (some (.inl (some v), S)) = mm_run P (n, L, v :: rest, S) := rfl
theorem mm_aft_n (P : Nat → mm_I) (n : Nat) (L : mm_L) (rest : List Value) (S : mm_S) : mm_aft P n L rest (some (.inl none, S)) = mm_run P (n, L, rest, S) := rfl
theorem mm_aft_x (P : Nat → mm_I) (n : Nat) (L : mm_L) (rest : List Value) (E : Nat) (S : mm_S) : mm_aft P n L rest (some (.inr E, S)) = some (.inr E, S) := rfl
theorem bi_0 (b : Bool) : (bi b = i32 0) ↔ ¬ b = true := by cases b <;> decide
theorem bi_1 (b : Bool) : (bi b = i32 1) ↔ b = true := by cases b <;> decide
theorem bi_rt (b : Bool) : (bi b = i32 0 ∨ bi b = i32 1) ↔ True := by cases b <;> decide
theorem i32_r0 : (i32 0 = i32 0 ∨ i32 0 = i32 1) ↔ True := by decide
theorem i32_r1 : (i32 1 = i32 0 ∨ i32 1 = i32 1) ↔ True := by decide
theorem bi_em (b : Bool) : (¬ b = true ∨ b = true) ↔ True := by cases b <;> decide
theorem run_bi {c : Prop} [Decidable c] (P : Nat → mm_I) (n : Nat) (L : mm_L) (r : List Value) (S : mm_S) : (if c then mm_run P (n, L, .int (i32 1) :: r, S) else mm_run P (n, L, .int (i32 0) :: r, S)) = mm_run P (n, L, .int (bi (decide c)) :: r, S) := by
  by_cases h : c
  · rw [if_pos h, decide_eq_true h]; rfl
  · rw [if_neg h, decide_eq_false h]; rfl
theorem run_bi' {c : Prop} [Decidable c] (P : Nat → mm_I) (n : Nat) (L : mm_L) (r : List Value) (S : mm_S) : (if c then mm_run P (n, L, .int (i32 0) :: r, S) else mm_run P (n, L, .int (i32 1) :: r, S)) = mm_run P (n, L, .int (bi (!decide c)) :: r, S) := by
  by_cases h : c
  · rw [if_pos h, decide_eq_true h]; rfl
  · rw [if_neg h, decide_eq_false h]; rfl
theorem i32_sub {a b : Nat} (h : b ≤ a) : i32 a - i32 b = i32 (a - b) := by
  have : i32 (a - b) + i32 b = i32 a := by rw [i32_add]; congr 1; omega
  rw [← this]
  exact Int32.add_sub_cancel _ _

