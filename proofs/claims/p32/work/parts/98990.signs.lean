/-! patterns: signs -/
def byB (x : Int64) (i : Nat) : Nat := tn x / 2 ^ (8 * i) % 256
def tol (c : Nat) : Bool := decide (c = 46 ∨ c = 111 ∨ c = 120 ∨ c = 35 ∨ c = 42)
def sgn (c : Nat) : Bool := tol c || decide (c = 33) || decide (c = 124)
def men (c : Nat) : Nat := if c = 46 then 1 else if c = 111 then 2 else if c = 120 then 4 else if c = 35 then 8 else if c = 42 then 15 else 0
def okS (x : Int64) : Nat → Bool
  | 0 => true
  | i + 1 => okS x i && sgn (byB x i)
theorem byB_lt (x : Int64) (i : Nat) : byB x i < 256 := Nat.mod_lt _ (by decide)
theorem men_t : ∀ c : Fin 256, (men c.1 = 0 ↔ tol c.1 = false) ∧ men c.1 < 16 := by decide +kernel
theorem sh_a : ∀ i : Fin 8, (((8 : Int32) * i32 i.1).toInt64 &&& 63).toBitVec.smod 64 = BitVec.ofNat 64 (8 * i.1) := by decide
theorem sh_u : ∀ i : Fin 8, ((((8 : Int32) * i32 i.1).toInt64.toUInt64 &&& Int64.toUInt64 63).toBitVec % 64).toNat = 8 * i.1 := by decide
theorem mb_255 : ∀ j : Fin 64, mb 255 j.1 = decide (j.1 < 8) := by decide
theorem by_sar (x : Int64) {i : Nat} (hi : i < 8) : (x >>> (((8 : Int32) * i32 i).toInt64 &&& 63)) &&& (255 : Int64) = ((x.toUInt64 >>> (((8 : Int32) * i32 i).toInt64.toUInt64 &&& Int64.toUInt64 63)).toInt64) &&& (255 : Int64) := by
  apply mb_ext
  intro j hj
  rw [mb_and, mb_and, mb_255 ⟨j, hj⟩]
  by_cases q : j < 8
  · rw [decide_eq_true q, Bool.and_true, Bool.and_true]
    have h1 : mb (x >>> (((8 : Int32) * i32 i).toInt64 &&& 63)) j = x.toBitVec.getLsbD (8 * i + j) := by
      unfold mb
      rw [Int64.toBitVec_shiftRight, sh_a ⟨i, hi⟩, BitVec.sshiftRight', BitVec.getLsbD_sshiftRight]
      have hc : (BitVec.ofNat 64 (8 * i)).toNat = 8 * i := by rw [BitVec.toNat_ofNat]; omega
      rw [hc, if_pos (by omega), decide_eq_false (by omega)]
      rfl
    have h2 : mb ((x.toUInt64 >>> (((8 : Int32) * i32 i).toInt64.toUInt64 &&& Int64.toUInt64 63)).toInt64) j = x.toBitVec.getLsbD (8 * i + j) := by
      unfold mb
      show ((x.toUInt64 >>> (((8 : Int32) * i32 i).toInt64.toUInt64 &&& Int64.toUInt64 63)).toBitVec).getLsbD j = _
      rw [UInt64.toBitVec_shiftRight, BitVec.ushiftRight_eq', BitVec.getLsbD_ushiftRight, sh_u ⟨i, hi⟩]
      rfl
    rw [h1, h2]
  · rw [decide_eq_false q, Bool.and_false, Bool.and_false]
theorem tn_i32 (w : Int64) (h : tn w < 256) : w.toInt32 = i32 (tn w) := by
  apply Int32.toBitVec_inj.1
  rw [Int64.toBitVec_toInt32]
  apply BitVec.eq_of_toNat_eq
  rw [BitVec.signExtend_eq_setWidth_of_le _ (by decide), BitVec.toNat_setWidth]
  show tn w % 2 ^ 32 = (tn w) % 2 ^ 32
  rfl
theorem by_shr (x : Int64) {i : Nat} (hi : i < 8) : ((((x.toUInt64 >>> (((8 : Int32) * i32 i).toInt64.toUInt64 &&& Int64.toUInt64 63)).toInt64) &&& (255 : Int64)).toInt32) = i32 (byB x i) := by
  have h1 : tn (((x.toUInt64 >>> (((8 : Int32) * i32 i).toInt64.toUInt64 &&& Int64.toUInt64 63)).toInt64) &&& (255 : Int64)) = byB x i := by
    rw [tn_and, tn_shr, sh_u ⟨i, hi⟩, show tn 255 = 2 ^ 8 - 1 from rfl, Nat.and_two_pow_sub_one_eq_mod]
    rfl
  rw [tn_i32 _ (by rw [h1]; exact byB_lt x i), h1]
theorem ch16 : ∀ b : Fin 256, (((i32 b.1).toUInt32 % 65536).toInt32) = i32 b.1 ∧ (i32 b.1).toUInt32.toUInt16.toUInt32.toInt32 = i32 b.1 := by decide +kernel
theorem ch16a {b : Nat} (h : b < 256) : (((i32 b).toUInt32 % 65536).toInt32) = i32 b := (ch16 ⟨b, h⟩).1
theorem ch16b {b : Nat} (h : b < 256) : (i32 b).toUInt32.toUInt16.toUInt32.toInt32 = i32 b := (ch16 ⟨b, h⟩).2
section
variable (e : Nat) (I : Nat → Nat → Int32) (J : Nat → Nat → Int64) (A : Nat → Nat → Int32) (B : Nat → Nat → Int64)
theorem sp_signOf (x : Int64) {i : Nat} (hi : i < 8) : f_X5_signOf [.ref 24, .long x, .int (i32 i)] (79, e, mm_R0, I, J, A, B) = some (.inl (some (.int (i32 (byB x i)))), (79, e, mm_R0, I, J, A, B)) := by
  have hb := byB_lt x i
  rw [en_X5_signOf, sg_X5_signOf_0, by_sar x hi, by_shr x hi, ch16a hb, if_pos ((i32_in (by omega)).2 (by omega))]
theorem sp_meaning (S : mm_S) {c : Nat} (hc : c < 256) : f_X5_meaning [.int (i32 c)] S = some (.inl (some (.int (i32 (men c)))), S) := by
  rw [en_X5_meaning, sg_X5_meaning_0]
  unfold men
  have eq : ∀ {a : Nat}, a < 256 → (i32 c = i32 a ↔ c = a) := fun {a} ha => i32_eq (by omega) (by omega)
  simp only [sg_X5_meaning_53]
  by_cases q1 : c = 46
  · rw [if_pos (show i32 c = (46 : Int32) from (eq (a := 46) (by decide)).2 q1), if_pos q1]; rfl
  · rw [if_neg (show ¬ i32 c = (46 : Int32) from fun z => q1 ((eq (a := 46) (by decide)).1 z)), if_neg q1]
    by_cases q2 : c = 111
    · rw [if_pos (show i32 c = (111 : Int32) from (eq (a := 111) (by decide)).2 q2), if_pos q2]; rfl
    · rw [if_neg (show ¬ i32 c = (111 : Int32) from fun z => q2 ((eq (a := 111) (by decide)).1 z)), if_neg q2]
      by_cases q3 : c = 120
      · rw [if_pos (show i32 c = (120 : Int32) from (eq (a := 120) (by decide)).2 q3), if_pos q3]; rfl
      · rw [if_neg (show ¬ i32 c = (120 : Int32) from fun z => q3 ((eq (a := 120) (by decide)).1 z)), if_neg q3]
        by_cases q4 : c = 35
        · rw [if_pos (show i32 c = (35 : Int32) from (eq (a := 35) (by decide)).2 q4), if_pos q4]; rfl
        · rw [if_neg (show ¬ i32 c = (35 : Int32) from fun z => q4 ((eq (a := 35) (by decide)).1 z)), if_neg q4]
          by_cases q5 : c = 42
          · rw [if_pos (show i32 c = (42 : Int32) from (eq (a := 42) (by decide)).2 q5), if_pos q5]; rfl
          · rw [if_neg (show ¬ i32 c = (42 : Int32) from fun z => q5 ((eq (a := 42) (by decide)).1 z)), if_neg q5]; rfl
theorem sp_canType (x : Int64) {n : Nat} (hn : n ≤ 8) : f_X5_canType [.ref 24, .long x, .int (i32 n)] (79, e, mm_R0, I, J, A, B) = some (.inl (some (.int (bi (okS x n)))), (79, e, mm_R0, I, J, A, B)) := by
  have L : ∀ (dd i : Nat) (o5 : Option Value), i + dd = n → okS x i = true → mm_run (mm_pr tb_X5_canType) (3, [some (.ref 24), some (.long x), none, some (.int (i32 n)), some (.int (i32 i)), o5], [], (79, e, mm_R0, I, J, A, B)) = some (.inl (some (.int (bi (okS x n)))), (79, e, mm_R0, I, J, A, B)) := by
    intro dd
    induction dd with
    | zero =>
      intro i o5 hi ho
      have : i = n := by omega
      subst this
      rw [sg_X5_canType_3, if_neg (by rw [i32_lt (by omega) (by omega)]; omega), sg_X5_canType_55, ho]
      rfl
    | succ dd ih =>
      intro i o5 hi ho
      have hb := byB_lt x i
      have un : okS x (i + 1) = (okS x i && sgn (byB x i)) := rfl
      have later : sgn (byB x i) = false → okS x n = false := by
        intro z
        have : ∀ d, okS x (i + 1 + d) = false := by
          intro d
          induction d with
          | zero => rw [Nat.add_zero, un, z, Bool.and_false]
          | succ d ih2 => show (okS x (i + 1 + d) && _) = false; rw [ih2]; rfl
        have := this dd
        rw [show i + 1 + dd = n by omega] at this
        exact this
      have go : sgn (byB x i) = true → ∀ o, mm_run (mm_pr tb_X5_canType) (49, [some (.ref 24), some (.long x), none, some (.int (i32 n)), some (.int (i32 i)), some (.int o)], [], (79, e, mm_R0, I, J, A, B)) = some (.inl (some (.int (bi (okS x n)))), (79, e, mm_R0, I, J, A, B)) := by
        intro z o
        rw [sg_X5_canType_49]
        simp only [i32_l]
        rw [i32_add]
        exact ih (i + 1) _ (by omega) (by rw [un, ho, z]; rfl)
      rw [sg_X5_canType_3, if_pos (by rw [i32_lt (by omega) (by omega)]; omega), if_pos (show i32 i < (8 : Int32) from (i32_lt (b := 8) (by omega) (by decide)).2 (by omega)), sp_signOf e I J A B x (by omega), mm_aft_v, sg_X5_canType_23, sp_meaning _ hb, mm_aft_v, sg_X5_canType_30]
      have mt : men (byB x i) = 0 ↔ tol (byB x i) = false := (men_t ⟨byB x i, hb⟩).1
      have ml : men (byB x i) < 16 := (men_t ⟨byB x i, hb⟩).2
      generalize byB x i = b at hb later go mt ml ⊢
      by_cases q : men b = 0
      · rw [if_pos (show i32 (men b) = 0 by rw [q]; rfl)]
        have tl := mt.1 q
        by_cases q1 : b = 33
        · rw [if_pos (show i32 b = (33 : Int32) by rw [q1]; rfl)]
          exact go (by rw [q1]; rfl) _
        · rw [if_neg (show ¬ i32 b = (33 : Int32) from fun z => q1 ((i32_eq (b := 33) (by omega) (by decide)).1 z))]
          by_cases q2 : b = 124
          · rw [if_pos (show i32 b = (124 : Int32) by rw [q2]; rfl)]
            exact go (by rw [q2]; rfl) _
          · rw [if_neg (show ¬ i32 b = (124 : Int32) from fun z => q2 ((i32_eq (b := 124) (by omega) (by decide)).1 z)), later (by unfold sgn; rw [tl, decide_eq_false q1, decide_eq_false q2]; rfl)]
            rfl
      · rw [if_neg (show ¬ i32 (men b) = 0 by rw [show (0 : Int32) = i32 0 from rfl, i32_eq (by omega) (by decide)]; exact q)]
        refine go ?_ _
        unfold sgn
        cases y : tol b with
        | true => rfl
        | false => exact absurd (mt.2 y) q
  rw [en_X5_canType, sg_X5_canType_0]
  exact L n 0 none (by omega) rfl
def tpV (tp : Nat → Nat) (tn' : Nat) (x : Int64) (n : Nat) : Nat → Nat := fun j => if tn' ≤ j ∧ j < tn' + n then byB x (j - tn') else tp j
theorem sp_append {tp : Nat → Nat} {t : Nat} (x : Int64) {n : Nat} (hn : n ≤ 8) (ht : t + n ≤ 30) (h6 : I 24 6 = i32 t) (hA : ∀ j, j < t → A 25 j = i32 (tp j)) : ∃ I' A', f_X5_append [.ref 24, .long x, .int (i32 n)] (79, e, mm_R0, I, J, A, B) = some (.inl none, (79, e, mm_R0, I', J, A', B)) ∧ I' 24 6 = i32 (t + n) ∧ (∀ j, j < t + n → A' 25 j = i32 (tpV tp t x n j)) ∧ (∀ i, i ≠ 24 → I' i = I i) ∧ (∀ p, p ≠ 6 → I' 24 p = I 24 p) ∧ (∀ i, i ≠ 25 → A' i = A i) := by
  have L : ∀ (dd i : Nat) (I1 : Nat → Nat → Int32) (A1 : Nat → Nat → Int32), i + dd = n → I1 24 6 = i32 (t + i) → (∀ j, j < t + i → A1 25 j = i32 (tpV tp t x n j)) → (∀ i, i ≠ 24 → I1 i = I i) → (∀ p, p ≠ 6 → I1 24 p = I 24 p) → (∀ i, i ≠ 25 → A1 i = A i) → ∃ I' A', mm_run (mm_pr tb_X5_append) (3, [some (.ref 24), some (.long x), none, some (.int (i32 n)), some (.int (i32 i))], [], (79, e, mm_R0, I1, J, A1, B)) = some (.inl none, (79, e, mm_R0, I', J, A', B)) ∧ I' 24 6 = i32 (t + n) ∧ (∀ j, j < t + n → A' 25 j = i32 (tpV tp t x n j)) ∧ (∀ i, i ≠ 24 → I' i = I i) ∧ (∀ p, p ≠ 6 → I' 24 p = I 24 p) ∧ (∀ i, i ≠ 25 → A' i = A i) := by
    intro dd
    induction dd with
    | zero =>
      intro i I1 A1 hi h1 h2 h3 h4 h5
      have : i = n := by omega
      subst this
      refine ⟨I1, A1, ?_, h1, h2, h3, h4, h5⟩
      rw [sg_X5_append_3, if_neg (by rw [i32_lt (by omega) (by omega)]; omega), sg_X5_append_64]
    | succ dd ih =>
      intro i I1 A1 hi h1 h2 h3 h4 h5
      have hb := byB_lt x i
      obtain ⟨I', A', k1, k2⟩ := ih (i + 1) (mm_up I1 24 6 (i32 (t + (i + 1)))) (mm_up A1 25 (t + i) (i32 (byB x i))) (by omega) (by rw [mm_up_eq]) (fun j hj => by
        by_cases y : j = t + i
        · subst y
          rw [mm_up_eq]
          unfold tpV
          rw [if_pos (by omega), show t + i - t = i by omega]
        · rw [mm_up_ne2 _ _ _ _ _ _ y]; exact h2 j (by omega)) (fun j hj => by rw [mm_up_row _ _ _ _ _ hj]; exact h3 j hj) (fun p hp => by rw [mm_up_ne2 _ _ _ _ _ _ hp]; exact h4 p hp) (fun j hj => by rw [mm_up_row _ _ _ _ _ hj]; exact h5 j hj)
      refine ⟨I', A', ?_, k2⟩
      rw [← k1, sg_X5_append_3, if_pos (by rw [i32_lt (by omega) (by omega)]; omega), if_pos (show i32 i < (8 : Int32) from (i32_lt (b := 8) (by omega) (by decide)).2 (by omega)), h1, if_neg (show ¬ i32 (t + i) < (0 : Int32) by rw [show (0 : Int32) = i32 0 from rfl, i32_lt (by omega) (by decide)]; omega), if_pos (show i32 (t + i) < (30 : Int32) from (i32_lt (b := 30) (by omega) (by decide)).2 (by omega)), sp_signOf e I1 J A1 B x (by omega), mm_aft_v, sg_X5_append_47, if_pos ((i32_in (by omega)).2 (by omega)), i32_ix (by omega), ch16b hb, h1]
      simp only [i32_l]
      rw [i32_add, i32_add]
      rfl
  rw [en_X5_append, sg_X5_append_0]
  exact L n 0 I A (by omega) (by rw [Nat.add_zero]; exact h6) (fun j hj => by unfold tpV; rw [if_neg (by omega)]; exact hA j (by omega)) (fun _ _ => rfl) (fun _ _ => rfl) (fun _ _ => rfl)
end
