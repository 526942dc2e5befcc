/-! gaps: the empty cells of a position by numbers of their own; sets of gaps as small numbers -/
theorem i32_or (a b : Nat) : i32 a ||| i32 b = i32 (a ||| b) := by
  apply Int32.toBitVec_inj.1
  apply BitVec.eq_of_toNat_eq
  show ((BitVec.ofNat 32 a) ||| (BitVec.ofNat 32 b)).toNat = (BitVec.ofNat 32 (a ||| b)).toNat
  rw [BitVec.toNat_or, BitVec.toNat_ofNat, BitVec.toNat_ofNat, BitVec.toNat_ofNat, Nat.or_mod_two_pow]
theorem i32_and (a b : Nat) : i32 a &&& i32 b = i32 (a &&& b) := by
  apply Int32.toBitVec_inj.1
  apply BitVec.eq_of_toNat_eq
  show ((BitVec.ofNat 32 a) &&& (BitVec.ofNat 32 b)).toNat = (BitVec.ofNat 32 (a &&& b)).toNat
  rw [BitVec.toNat_and, BitVec.toNat_ofNat, BitVec.toNat_ofNat, BitVec.toNat_ofNat, Nat.and_mod_two_pow]
/-- what is in a and not in b -/
def ndf (a b : Nat) : Nat := a ^^^ (a &&& b)
theorem tb_ndf (a b i : Nat) : (ndf a b).testBit i = (a.testBit i && !b.testBit i) := by
  unfold ndf
  rw [Nat.testBit_xor, Nat.testBit_and]
  cases a.testBit i <;> cases b.testBit i <;> rfl
theorem i32_ndf (a b : Nat) : i32 a &&& (i32 b ^^^ iN) = i32 (ndf a b) := by
  apply Int32.toBitVec_inj.1
  apply BitVec.eq_of_getLsbD_eq
  intro i hi
  show ((BitVec.ofNat 32 a) &&& ((BitVec.ofNat 32 b) ^^^ (BitVec.allOnes 32))).getLsbD i = (BitVec.ofNat 32 (ndf a b)).getLsbD i
  rw [BitVec.getLsbD_and, BitVec.getLsbD_xor, BitVec.getLsbD_ofNat, BitVec.getLsbD_ofNat, BitVec.getLsbD_ofNat, BitVec.getLsbD_allOnes, tb_ndf]
  cases a.testBit i <;> cases b.testBit i <;> simp [hi]
theorem i32_shl_t : ∀ k : Fin 31, i32 1 <<< (i32 k.1 &&& i32 31) = i32 (2 ^ k.1) := by decide +kernel
theorem i32_shl {k : Nat} (h : k < 31) : i32 1 <<< (i32 k &&& i32 31) = i32 (2 ^ k) := i32_shl_t ⟨k, h⟩
theorem i32_J {a : Nat} (ha : a < 2147483648) : (i32 a).toInt64 = Int64.ofNat a := by
  apply Int64.toInt_inj.1
  rw [Int32.toInt_toInt64, i32_toInt ha, Int64.toInt_ofNat_of_lt (by omega)]
theorem mb_i32 {a : Nat} (ha : a < 2147483648) (k : Nat) : mb ((i32 a).toInt64) k = a.testBit k := by
  rw [mb_nat, i32_J ha]
  show (BitVec.ofNat 64 a).toNat.testBit k = _
  rw [BitVec.toNat_ofNat, Nat.mod_eq_of_lt (by omega)]
theorem cf_mono {p : Nat → Bool} {a b : Nat} (h : a ≤ b) : cf p a ≤ cf p b := by
  induction b with
  | zero => rw [show a = 0 by omega]; exact Nat.le_refl _
  | succ b ih =>
    by_cases q : a = b + 1
    · rw [q]; exact Nat.le_refl _
    · have := ih (by omega)
      show _ ≤ cf p b + (p b).toNat
      omega
theorem cf_s {p : Nat → Bool} {n : Nat} (h : p n = true) : cf p (n + 1) = cf p n + 1 := by
  show cf p n + (p n).toNat = _
  rw [h]; rfl
theorem cf_s0 {p : Nat → Bool} {n : Nat} (h : p n = false) : cf p (n + 1) = cf p n := by
  show cf p n + (p n).toNat = _
  rw [h]; rfl
theorem cf_inj {p : Nat → Bool} {c d : Nat} (h : c < d) (hc : p c = true) : cf p c < cf p d := by
  have h1 := cf_s hc
  have h2 := cf_mono (p := p) (show c + 1 ≤ d from h)
  omega
theorem cf_hit {p : Nat → Bool} : ∀ n k, k < cf p n → ∃ c, c < n ∧ p c = true ∧ cf p c = k := by
  intro n
  induction n with
  | zero => intro k h; exact absurd h (Nat.not_lt_zero _)
  | succ n ih =>
    intro k h
    by_cases q : k < cf p n
    · obtain ⟨c, h1, h2, h3⟩ := ih k q
      exact ⟨c, by omega, h2, h3⟩
    · by_cases hp : p n = true
      · rw [cf_s hp] at h
        exact ⟨n, by omega, hp, by omega⟩
      · rw [cf_s0 (bool_f hp)] at h
        omega
/-- the cell of a gap -/
def gc (E : Int64) (k : Nat) : Nat := ((List.range 36).find? (fun c => mb E c && decide (cf (mb E) c = k))).getD 0
abbrev gn (E : Int64) : Nat := cf (mb E) 36
theorem gc_spec {E : Int64} {k : Nat} (h : k < gn E) : gc E k < 36 ∧ mb E (gc E k) = true ∧ cf (mb E) (gc E k) = k := by
  obtain ⟨c, h1, h2, h3⟩ := cf_hit 36 k h
  unfold gc
  cases hf : (List.range 36).find? (fun c => mb E c && decide (cf (mb E) c = k)) with
  | none =>
    rw [List.find?_eq_none] at hf
    have := hf c (List.mem_range.2 h1)
    simp [h2, h3] at this
  | some d =>
    have a := List.find?_some hf
    have b := List.mem_range.1 (List.mem_of_find?_eq_some hf)
    simp only [Bool.and_eq_true, decide_eq_true_eq] at a
    exact ⟨b, a.1, a.2⟩
theorem gc_of {E : Int64} {c : Nat} (h : c < 36) (hm : mb E c = true) : cf (mb E) c < gn E ∧ gc E (cf (mb E) c) = c := by
  have h1 : cf (mb E) c < gn E := cf_inj h hm
  obtain ⟨s1, s2, s3⟩ := gc_spec h1
  refine ⟨h1, ?_⟩
  rcases Nat.lt_trichotomy (gc E (cf (mb E) c)) c with q | q | q
  · have := cf_inj q s2; omega
  · exact q
  · have := cf_inj q hm; omega
theorem gc_inj {E : Int64} {j k : Nat} (hj : j < gn E) (hk : k < gn E) (h : gc E j = gc E k) : j = k := by
  rw [← (gc_spec hj).2.2, ← (gc_spec hk).2.2, h]
theorem gc_lt {E : Int64} {j k : Nat} (hk : k < gn E) (h : j < k) : gc E j < gc E k := by
  have a := gc_spec (show j < gn E by omega)
  have b := gc_spec hk
  rcases Nat.lt_or_ge (gc E j) (gc E k) with q | q
  · exact q
  · have := cf_mono (p := mb E) q; omega
/-- the cells of a set of gaps -/
def spr (E : Int64) (a : Nat) : Nat → Int64
  | 0 => 0
  | k + 1 => spr E a k ||| (if a.testBit k = true then mbit (gc E k) else 0)
theorem mb_spr {E : Int64} {a : Nat} (c : Nat) : ∀ n, n ≤ gn E → (mb (spr E a n) c = true ↔ ∃ k, k < n ∧ a.testBit k = true ∧ gc E k = c) := by
  intro n
  induction n with
  | zero =>
    intro _
    show mb 0 c = true ↔ _
    rw [mb_zero]
    exact ⟨fun h => Bool.noConfusion h, fun ⟨k, h, _⟩ => absurd h (Nat.not_lt_zero _)⟩
  | succ n ih =>
    intro h
    have g := gc_spec (E := E) (k := n) (by omega)
    show mb (spr E a n ||| _) c = true ↔ _
    rw [mb_or, Bool.or_eq_true, ih (by omega)]
    constructor
    · rintro (⟨k, h1, h2, h3⟩ | q)
      · exact ⟨k, by omega, h2, h3⟩
      · by_cases t : a.testBit n = true
        · rw [if_pos t, mb_bit _ _ (by omega), decide_eq_true_eq] at q
          exact ⟨n, by omega, t, q⟩
        · rw [if_neg t, mb_zero] at q; cases q
    · rintro ⟨k, h1, h2, h3⟩
      by_cases q : k = n
      · subst q
        right
        rw [if_pos h2, mb_bit _ _ (by omega), decide_eq_true_eq]; exact h3
      · exact Or.inl ⟨k, by omega, h2, h3⟩
theorem spr_mem {E : Int64} {a c : Nat} : mb (spr E a (gn E)) c = true ↔ (c < 36 ∧ mb E c = true ∧ a.testBit (cf (mb E) c) = true) := by
  rw [mb_spr c (gn E) (Nat.le_refl _)]
  constructor
  · rintro ⟨k, h1, h2, h3⟩
    obtain ⟨g1, g2, g3⟩ := gc_spec h1
    subst h3
    exact ⟨g1, g2, by rw [g3]; exact h2⟩
  · rintro ⟨h1, h2, h3⟩
    have := gc_of h1 h2
    exact ⟨_, this.1, h3, this.2⟩
theorem spr_or {E : Int64} (a b : Nat) : spr E (a ||| b) (gn E) = spr E a (gn E) ||| spr E b (gn E) := by
  apply mb_ext
  intro c _
  rw [mb_or, Bool.eq_iff_iff, Bool.or_eq_true, spr_mem, spr_mem, spr_mem, Nat.testBit_or, Bool.or_eq_true]
  constructor
  · rintro ⟨h1, h2, h3 | h3⟩
    · exact Or.inl ⟨h1, h2, h3⟩
    · exact Or.inr ⟨h1, h2, h3⟩
  · rintro (⟨h1, h2, h3⟩ | ⟨h1, h2, h3⟩)
    · exact ⟨h1, h2, Or.inl h3⟩
    · exact ⟨h1, h2, Or.inr h3⟩
theorem spr_one {E : Int64} {k : Nat} (h : k < gn E) : spr E (2 ^ k) (gn E) = mbit (gc E k) := by
  have g := gc_spec h
  apply mb_ext
  intro c _
  rw [Bool.eq_iff_iff, mb_spr c _ (Nat.le_refl _), mb_bit _ _ (by omega), decide_eq_true_eq]
  constructor
  · rintro ⟨j, h1, h2, h3⟩
    rw [Nat.testBit_two_pow, decide_eq_true_eq] at h2
    rw [h2]; exact h3
  · intro q
    exact ⟨k, h, by rw [Nat.testBit_two_pow, decide_eq_true_eq], q⟩
theorem spr_zero {E : Int64} : ∀ n, spr E 0 n = 0 := by
  intro n
  induction n with
  | zero => rfl
  | succ n ih =>
    show spr E 0 n ||| _ = 0
    rw [ih, Nat.zero_testBit, if_neg (by decide)]; rfl

