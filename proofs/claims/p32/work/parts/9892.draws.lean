/-! playing out: the numbers drawn -/
def j64 (n : Nat) : Int64 := Int64.ofNat n
theorem j64_l (n : Nat) : (@OfNat.ofNat Int64 n _) = j64 (@OfNat.ofNat Nat n _) := id rfl
theorem j64_add (a b : Nat) : j64 a + j64 b = j64 (a + b) := (Int64.ofNat_add a b).symm
theorem j64_mul (a b : Nat) : j64 a * j64 b = j64 (a * b) := (Int64.ofNat_mul a b).symm
theorem j64_toInt {a : Nat} (h : a < 9223372036854775808) : (j64 a).toInt = (a : Int) := Int64.toInt_ofNat_of_lt h
theorem j64_sub {a b : Nat} (h : b ≤ a) : j64 a - j64 b = j64 (a - b) := by
  have : j64 a = j64 (a - b) + j64 b := by rw [j64_add]; congr 1; omega
  rw [this, Int64.add_sub_cancel]
theorem j64_div {a b : Nat} (ha : a < 9223372036854775808) (hb : b < 9223372036854775808) (h0 : 0 < b) : j64 a / j64 b = j64 (a / b) := by
  have h : a / b ≤ a := Nat.div_le_self a b
  apply Int64.toInt_inj.1
  rw [Int64.toInt_div, j64_toInt ha, j64_toInt hb, j64_toInt (by omega)]
  have t : (a : Int).tdiv (b : Int) = ((a / b : Nat) : Int) := rfl
  rw [t]
  generalize a / b = d at h ⊢
  rw [Int.bmod_eq_of_le (by omega) (by omega)]
theorem j64_eq {a b : Nat} (ha : a < 9223372036854775808) (hb : b < 9223372036854775808) : (j64 a = j64 b) ↔ a = b := by
  rw [← Int64.toInt_inj, j64_toInt ha, j64_toInt hb]; omega
theorem j64_i32 (a : Nat) : (j64 a).toInt32 = i32 a := Int64.toInt32_ofNat'
theorem i32_j64 {a : Nat} (h : a < 2147483648) : (i32 a).toInt64 = j64 a := i32_J h
theorem j64_mod {a b : Nat} (ha : a < 9223372036854775808) (hb : b < 9223372036854775808) (h0 : 0 < b) : j64 a - j64 a / j64 b * j64 b = j64 (a % b) := by
  rw [j64_div ha hb h0, j64_mul, j64_sub (Nat.div_mul_le_self a b), Nat.mod_eq_sub_div_mul]
theorem i32_mod {a b : Nat} (ha : a < 2147483648) (hb : b < 2147483648) (h0 : 0 < b) : i32 a - i32 a / i32 b * i32 b = i32 (a % b) := by
  rw [i32_div ha hb h0, i32_mul, i32_sub (Nat.div_mul_le_self a b), Nat.mod_eq_sub_div_mul]
def nx31 (n : Nat) : Nat := (1103515245 * n + 12345) % 2147483648
theorem nx31_lt (n : Nat) : nx31 n < 2147483648 := Nat.mod_lt _ (by decide)
theorem nx31_e {n : Nat} (h : n < 2147483648) : ((1103515245 : Int64) * j64 n + (12345 : Int64)) - ((1103515245 : Int64) * j64 n + (12345 : Int64)) / (2147483648 : Int64) * (2147483648 : Int64) = j64 (nx31 n) := by
  rw [show (1103515245 : Int64) = j64 1103515245 from rfl, show (12345 : Int64) = j64 12345 from rfl, show (2147483648 : Int64) = j64 2147483648 from rfl, j64_mul, j64_add, j64_mod (by omega) (by decide) (by decide)]
  rfl
def clrN : Nat → Int64 → Int64
  | 0, x => x
  | j + 1, x => clrN j (x &&& (x - 1))
theorem clr_one {x : Int64} (h36 : ∀ c, mb x c = true → c < 36) (h : 0 < gn x) : (∀ c, mb (x &&& (x - 1)) c = true → mb x c = true) ∧ gn (x &&& (x - 1)) + 1 = gn x := by
  obtain ⟨c, c1, c2, c3⟩ := cf_hit 36 0 h
  have ne := mne_of c2
  have bits := mlo_clr ne
  have m := mlo_mb ne
  refine ⟨fun c hc => by rw [bits, Bool.and_eq_true] at hc; exact hc.1, ?_⟩
  refine (cf_add (k := mlo x) (h36 _ m) ?_ m (fun c hc => ?_)).symm
  · rw [bits, decide_eq_true rfl, Bool.not_true, Bool.and_false]
  · rw [bits, decide_eq_false hc, Bool.not_false, Bool.and_true]
theorem clr_mem : ∀ (j : Nat) (x : Int64), (∀ c, mb x c = true → c < 36) → j < gn x → ¬ (clrN j x = 0) ∧ ∀ c, mb (clrN j x) c = true → mb x c = true := by
  intro j
  induction j with
  | zero =>
    intro x h36 h
    obtain ⟨c, c1, c2, c3⟩ := cf_hit 36 0 h
    exact ⟨mne_of c2, fun c z => z⟩
  | succ j ih =>
    intro x h36 h
    obtain ⟨a1, a2⟩ := clr_one h36 (by omega)
    obtain ⟨b1, b2⟩ := ih (x &&& (x - 1)) (fun c z => h36 c (a1 c z)) (by omega)
    exact ⟨b1, fun c z => a1 c (b2 c z)⟩
theorem gn_0 {x : Int64} (h36 : ∀ c, mb x c = true → c < 36) (h : gn x = 0) : x = 0 := by
  apply mb_ext
  intro c hc
  rw [mb_zero]
  refine bool_f (fun z => ?_)
  have h1 := cf_s z
  have h2 : cf (mb x) (c + 1) ≤ cf (mb x) 36 := cf_mono (h36 c z)
  have h3 : cf (mb x) 36 = 0 := h
  omega
section
variable (e : Nat) (I : Nat → Nat → Int32) (J : Nat → Nat → Int64) (A : Nat → Nat → Int32) (B : Nat → Nat → Int64)
theorem sp_draw {n b : Nat} (hn : n < 2147483648) (hJ : J 23 1 = j64 n) (h0 : 0 < b) (hb : b ≤ 36) : f_X7_draw [.ref 23, .int (i32 b)] (79, e, mm_R0, I, J, A, B) = some (.inl (some (.int (i32 (nx31 n / 65536 % b)))), (79, e, mm_R0, I, mm_up J 23 1 (j64 (nx31 n)), A, B)) := by
  have l := nx31_lt n
  have l2 : nx31 n / 65536 ≤ nx31 n := Nat.div_le_self _ _
  rw [en_X7_draw, sg_X7_draw_0, if_neg (show ¬ i32 b < (1 : Int32) by rw [show (1 : Int32) = i32 1 from rfl, i32_lt (by omega) (by decide)]; omega), hJ, nx31_e hn, i32_j64 (by omega), if_neg (show ¬ j64 b = 0 by rw [show (0 : Int64) = j64 0 from rfl, j64_eq (by omega) (by decide)]; omega), sg_X7_draw_41, show (65536 : Int64) = j64 65536 from rfl, j64_div (by omega) (by decide) (by decide), j64_mod (by omega) (by omega) h0, j64_i32]
theorem sp_drawnOf {n : Nat} (hn : n < 2147483648) (hJ : J 23 1 = j64 n) (em : Int64) (h36 : ∀ c, mb em c = true → c < 36) (h0 : 0 < gn em) : f_X7_drawnOf [.ref 23, .long em] (79, e, mm_R0, I, J, A, B) = some (.inl (some (.int (i32 (mlo (clrN (nx31 n / 65536 % gn em) em))))), (79, e, mm_R0, I, mm_up J 23 1 (j64 (nx31 n)), A, B)) := by
  have mc : mcnt em = gn em := by
    rw [mcnt_cf]
    exact cf_stop (fun c hc => bool_f (fun z => by have := h36 c z; omega)) (by decide)
  have gl : gn em ≤ 36 := cf_le _ _
  have dl : nx31 n / 65536 % gn em < gn em := Nat.mod_lt _ h0
  rw [en_X7_drawnOf, sg_X7_drawnOf_0, sp_bitCount, mm_aft_v, sg_X7_drawnOf_7, mc, sp_draw e I J A B hn hJ h0 gl, mm_aft_v, sg_X7_drawnOf_10]
  generalize nx31 n / 65536 % gn em = d at dl ⊢
  have L : ∀ (dd i : Nat) (x : Int64), i + dd = d → mm_run (mm_pr tb_X7_drawnOf) (15, [some (.ref 23), some (.long em), none, some (.long x), none, some (.int (i32 d)), some (.int (i32 i))], [], (79, e, mm_R0, I, mm_up J 23 1 (j64 (nx31 n)), A, B)) = some (.inl (some (.int (i32 (mlo (clrN dd x))))), (79, e, mm_R0, I, mm_up J 23 1 (j64 (nx31 n)), A, B)) := by
    intro dd
    induction dd with
    | zero =>
      intro i x hi
      rw [sg_X7_drawnOf_15, if_neg (by rw [i32_lt (by omega) (by omega)]; omega), sg_X7_drawnOf_41, sp_lowest, mm_aft_v, sg_X7_drawnOf_45]
      rfl
    | succ dd ih =>
      intro i x hi
      rw [sg_X7_drawnOf_15]
      simp (disch := omega) only [i32_l, iN_l, i32_add, i32_mul, i32_r0, i32_r1, run_bi, run_bi', i32_sub, decide_eq_true_eq, bi_rt, bi_em, bi_0, bi_1, i32_lt, i32_eq, iN_ne, iN_lt, iN_nlt, i32_ix, i32_in,  mm_aft_v, mm_aft_n, mm_aft_x, if_pos, if_neg, ite_true, ite_false, if_true, if_false, not_false_eq_true, not_true_eq_false]
      exact ih (i + 1) (x &&& (x - 1)) (by omega)
  exact L d 0 em (by omega)
end
section
variable (k : Nat) (r : Nat → Nat → Value) (e : Nat) (I : Nat → Nat → Int32) (J : Nat → Nat → Int64) (A : Nat → Nat → Int32) (B : Nat → Nat → Int64)
end
