/-! the fields that hold references, when all is made -/
def mm_R0L : List (List Value) := [[.ref 1, .ref 7, .ref 9, .ref 15, .ref 21, .ref 23, .ref 24, .ref 30, .ref 34, .null], [.ref 2, .ref 3, .ref 4, .ref 5, .ref 6, .null, .null, .null, .null, .null, .null], [], [], [], [], [], [.ref 1, .ref 8, .null, .null, .null, .null, .null], [], [.ref 1, .ref 10, .ref 13, .ref 14, .null, .null, .null, .null], [.ref 11, .ref 12, .null], [], [], [], [], [.ref 1, .ref 16, .ref 19, .ref 20, .null, .null, .null], [.ref 17, .ref 18, .null], [], [], [], [], [.ref 1, .ref 22], [], [.ref 1, .null], [.ref 1, .ref 25, .ref 26, .ref 27, .ref 28, .ref 29, .null, .null], [], [], [], [], [], [.ref 31, .ref 32, .ref 33, .null, .null, .null], [], [], [], [.ref 35, .ref 36, .ref 37, .ref 38, .null], [], [], [], [], [.ref 40, .ref 46, .ref 48, .ref 54, .ref 60, .ref 62, .ref 63, .ref 69, .ref 73, .null], [.ref 41, .ref 42, .ref 43, .ref 44, .ref 45, .null, .null, .null, .null, .null, .null], [], [], [], [], [], [.ref 40, .ref 47, .null, .null, .null, .null, .null], [], [.ref 40, .ref 49, .ref 52, .ref 53, .null, .null, .null, .null], [.ref 50, .ref 51, .null], [], [], [], [], [.ref 40, .ref 55, .ref 58, .ref 59, .null, .null, .null], [.ref 56, .ref 57, .null], [], [], [], [], [.ref 40, .ref 61], [], [.ref 40, .null], [.ref 40, .ref 64, .ref 65, .ref 66, .ref 67, .ref 68, .null, .null], [], [], [], [], [], [.ref 70, .ref 71, .ref 72, .null, .null, .null], [], [], [], [.ref 74, .ref 75, .ref 76, .ref 77, .null], [], [], [], [], []]
def mm_R0 (k p : Nat) : Value := (mm_R0L.getD k []).getD p .null
def mm_RB (r : Nat → Nat → Value) : Nat → Nat → Value := fun k p => bif Nat.beq k 1 then mm_R0 1 p else r k p
def mm_RP (r : Nat → Nat → Value) : Nat → Nat → Value := fun k p => bif Nat.beq k 1 then mm_R0 1 p else bif Nat.beq k 7 then mm_R0 7 p else r k p
theorem mm_RB_P (r : Nat → Nat → Value) : mm_RB (mm_RP r) = mm_RP r := by
  funext k p
  unfold mm_RB mm_RP
  cases h : Nat.beq k 1 <;> rfl
theorem mm_RP_0 : mm_RP mm_R0 = mm_R0 := by
  funext k p
  unfold mm_RP
  cases h : Nat.beq k 1 with
  | true => rw [Nat.eq_of_beq_eq_true h]; rfl
  | false =>
    cases h2 : Nat.beq k 7 with
    | true => rw [Nat.eq_of_beq_eq_true h2]; rfl
    | false => rfl
theorem mm_RB_0 : mm_RB mm_R0 = mm_R0 := by
  funext k p
  unfold mm_RB
  cases h : Nat.beq k 1 with
  | true => rw [Nat.eq_of_beq_eq_true h]; rfl
  | false => rfl
def mm_zR (R : Nat → Nat → Value) (n : Nat) : Nat → Nat → Value := fun i j => if i = n then .null else R i j
def mm_zI (I : Nat → Nat → Int32) (n : Nat) : Nat → Nat → Int32 := fun i j => if i = n then 0 else I i j
def mm_zJ (I : Nat → Nat → Int64) (n : Nat) : Nat → Nat → Int64 := fun i j => if i = n then 0 else I i j
def mm_zA (I : Nat → Nat → Int32) (n : Nat) : Nat → Nat → Int32 := fun i j => if i = n then 0 else I i j
def mm_zB (I : Nat → Nat → Int64) (n : Nat) : Nat → Nat → Int64 := fun i j => if i = n then 0 else I i j
def mm_st (P : Nat → mm_I) : Nat → mm_C → Option mm_C
  | 0, c => some c
  | k + 1, c => match P c.1 c.2.1 c.2.2.1 c.2.2.2 with
    | some (.inl c') => mm_st P k c'
    | _ => none
theorem mm_stp {P : Nat → mm_I} {c c' : mm_C} (k : Nat) (h : mm_st P k c = some c') : mm_run P c = mm_run P c' := by
  induction k generalizing c with
  | zero => cases h; rfl
  | succ k ih =>
    unfold mm_st at h
    rw [mm_run_eq]
    split at h
    · next c2 hc => rw [hc]; exact ih h
    · cases h
theorem mm_fin {P : Nat → mm_I} {c : mm_C} {r : mm_R} (h : P c.1 c.2.1 c.2.2.1 c.2.2.2 = some (.inr r)) : mm_run P c = some r := by rw [mm_run_eq, h]
theorem mm_ite {α : Type} {c : Prop} {h : Decidable c} {a a' b b' : α} (h1 : a = a') (h2 : b = b') : @ite α c h a b = @ite α c h a' b' := by rw [h1, h2]
/-- behind a call -/
noncomputable def mm_aft (P : Nat → mm_I) (n : Nat) (L : mm_L) (rest : List Value) : Option mm_R → Option mm_R
  | some (.inl v, S') => mm_run P (n, L, v.toList ++ rest, S')
  | some (.inr E, S') => some (.inr E, S')
  | none => none
noncomputable def mm_aftC (P : Nat → mm_I) (n : Nat) (L : mm_L) (rest : List Value) (hs : List (Nat × Nat × Nat)) : Option mm_R → Option mm_R
  | some (.inl v, S') => mm_run P (n, L, v.toList ++ rest, S')
  | some (.inr E, S') => (match mm_hdl L S' (hs.find? (fun q => Nat.beq q.1 E)) with
    | some (.inl c') => mm_run P c'
    | some (.inr r) => some r
    | none => none)
  | none => none
section BR
variable {P : Nat → mm_I} {pc t n : Nat} {L : mm_L} {r st : List Value} {S : mm_S}
theorem mm_b_eq2 {x y : Int32} (h : P pc = mm_eq2 t n) : mm_run P (pc, L, .int y :: .int x :: r, S) = if x = y then mm_run P (t, L, r, S) else mm_run P (n, L, r, S) := by
  rw [mm_run_eq]
  simp only [h]
  unfold mm_eq2
  dsimp only
  split <;> rfl
theorem mm_b_eq1 {x : Int32} (h : P pc = mm_eq1 t n) : mm_run P (pc, L, .int x :: r, S) = if x = 0 then mm_run P (t, L, r, S) else mm_run P (n, L, r, S) := by
  rw [mm_run_eq]
  simp only [h]
  unfold mm_eq1
  dsimp only
  split <;> rfl
theorem mm_b_ne2 {x y : Int32} (h : P pc = mm_ne2 t n) : mm_run P (pc, L, .int y :: .int x :: r, S) = if x = y then mm_run P (n, L, r, S) else mm_run P (t, L, r, S) := by
  rw [mm_run_eq]
  simp only [h]
  unfold mm_ne2
  dsimp only
  split <;> rfl
theorem mm_b_ne1 {x : Int32} (h : P pc = mm_ne1 t n) : mm_run P (pc, L, .int x :: r, S) = if x = 0 then mm_run P (n, L, r, S) else mm_run P (t, L, r, S) := by
  rw [mm_run_eq]
  simp only [h]
  unfold mm_ne1
  dsimp only
  split <;> rfl
theorem mm_b_lt2 {x y : Int32} (h : P pc = mm_lt2 t n) : mm_run P (pc, L, .int y :: .int x :: r, S) = if x < y then mm_run P (t, L, r, S) else mm_run P (n, L, r, S) := by
  rw [mm_run_eq]
  simp only [h]
  unfold mm_lt2
  dsimp only
  split <;> rfl
theorem mm_b_lt1 {x : Int32} (h : P pc = mm_lt1 t n) : mm_run P (pc, L, .int x :: r, S) = if x < 0 then mm_run P (t, L, r, S) else mm_run P (n, L, r, S) := by
  rw [mm_run_eq]
  simp only [h]
  unfold mm_lt1
  dsimp only
  split <;> rfl
theorem mm_b_ge2 {x y : Int32} (h : P pc = mm_ge2 t n) : mm_run P (pc, L, .int y :: .int x :: r, S) = if x < y then mm_run P (n, L, r, S) else mm_run P (t, L, r, S) := by
  rw [mm_run_eq]
  simp only [h]
  unfold mm_ge2
  dsimp only
  split <;> rfl
theorem mm_b_ge1 {x : Int32} (h : P pc = mm_ge1 t n) : mm_run P (pc, L, .int x :: r, S) = if x < 0 then mm_run P (n, L, r, S) else mm_run P (t, L, r, S) := by
  rw [mm_run_eq]
  simp only [h]
  unfold mm_ge1
  dsimp only
  split <;> rfl
theorem mm_b_gt2 {x y : Int32} (h : P pc = mm_gt2 t n) : mm_run P (pc, L, .int y :: .int x :: r, S) = if y < x then mm_run P (t, L, r, S) else mm_run P (n, L, r, S) := by
  rw [mm_run_eq]
  simp only [h]
  unfold mm_gt2
  dsimp only
  split <;> rfl
theorem mm_b_gt1 {x : Int32} (h : P pc = mm_gt1 t n) : mm_run P (pc, L, .int x :: r, S) = if 0 < x then mm_run P (t, L, r, S) else mm_run P (n, L, r, S) := by
  rw [mm_run_eq]
  simp only [h]
  unfold mm_gt1
  dsimp only
  split <;> rfl
theorem mm_b_le2 {x y : Int32} (h : P pc = mm_le2 t n) : mm_run P (pc, L, .int y :: .int x :: r, S) = if y < x then mm_run P (n, L, r, S) else mm_run P (t, L, r, S) := by
  rw [mm_run_eq]
  simp only [h]
  unfold mm_le2
  dsimp only
  split <;> rfl
theorem mm_b_le1 {x : Int32} (h : P pc = mm_le1 t n) : mm_run P (pc, L, .int x :: r, S) = if 0 < x then mm_run P (n, L, r, S) else mm_run P (t, L, r, S) := by
  rw [mm_run_eq]
  simp only [h]
  unfold mm_le1
  dsimp only
  split <;> rfl
theorem mm_cmp0 (x y : Int64) : (lg_cmp x y = 0 ↔ x = y) ∧ (lg_cmp x y < 0 ↔ x < y) ∧ (0 < lg_cmp x y ↔ y < x) := by
  unfold lg_cmp
  by_cases h1 : y < x
  · have n2 : ¬ x = y := by rintro rfl; exact absurd h1 (Int64.lt_irrefl)
    have n3 : ¬ x < y := fun q => absurd (Int64.lt_trans h1 q) (Int64.lt_irrefl)
    rw [if_pos h1]
    exact ⟨⟨fun q => absurd q (by decide), fun q => absurd q n2⟩, ⟨fun q => absurd q (by decide), fun q => absurd q n3⟩, ⟨fun _ => h1, fun _ => by decide⟩⟩
  · by_cases h2 : x = y
    · subst h2
      rw [if_neg h1, if_pos rfl]
      exact ⟨⟨fun _ => rfl, fun _ => rfl⟩, ⟨fun q => absurd q (by decide), fun q => absurd q h1⟩, ⟨fun q => absurd q (by decide), fun q => absurd q h1⟩⟩
    · have h3 : x < y := by
        rw [Int64.lt_iff_toInt_lt] at h1 ⊢
        have : x.toInt ≠ y.toInt := fun q => h2 (Int64.toInt_inj.1 q)
        omega
      rw [if_neg h1, if_neg h2]
      exact ⟨⟨fun q => absurd q (by decide), fun q => absurd q h2⟩, ⟨fun _ => h3, fun _ => by decide⟩, ⟨fun q => absurd q (by decide), fun q => absurd q h1⟩⟩
theorem mm_b_ceq {n1 : Nat} {x y : Int64} (h1 : P pc = mm_cmp n1) (h2 : P n1 = mm_eq1 t n) : mm_run P (pc, L, .long y :: .long x :: r, S) = if x = y then mm_run P (t, L, r, S) else mm_run P (n, L, r, S) := by
  rw [mm_run_eq]
  simp only [h1]
  show mm_run P (n1, L, .int (lg_cmp x y) :: r, S) = _
  rw [mm_b_eq1 h2]
  by_cases hc : x = y
  · rw [if_pos hc, if_pos ((mm_cmp0 x y).1.mpr hc)]
  · rw [if_neg hc, if_neg (fun q => hc ((mm_cmp0 x y).1.mp q))]
theorem mm_b_cne {n1 : Nat} {x y : Int64} (h1 : P pc = mm_cmp n1) (h2 : P n1 = mm_ne1 t n) : mm_run P (pc, L, .long y :: .long x :: r, S) = if x = y then mm_run P (n, L, r, S) else mm_run P (t, L, r, S) := by
  rw [mm_run_eq]
  simp only [h1]
  show mm_run P (n1, L, .int (lg_cmp x y) :: r, S) = _
  rw [mm_b_ne1 h2]
  by_cases hc : x = y
  · rw [if_pos hc, if_pos ((mm_cmp0 x y).1.mpr hc)]
  · rw [if_neg hc, if_neg (fun q => hc ((mm_cmp0 x y).1.mp q))]
theorem mm_b_clt {n1 : Nat} {x y : Int64} (h1 : P pc = mm_cmp n1) (h2 : P n1 = mm_lt1 t n) : mm_run P (pc, L, .long y :: .long x :: r, S) = if x < y then mm_run P (t, L, r, S) else mm_run P (n, L, r, S) := by
  rw [mm_run_eq]
  simp only [h1]
  show mm_run P (n1, L, .int (lg_cmp x y) :: r, S) = _
  rw [mm_b_lt1 h2]
  by_cases hc : x < y
  · rw [if_pos hc, if_pos ((mm_cmp0 x y).2.1.mpr hc)]
  · rw [if_neg hc, if_neg (fun q => hc ((mm_cmp0 x y).2.1.mp q))]
theorem mm_b_cge {n1 : Nat} {x y : Int64} (h1 : P pc = mm_cmp n1) (h2 : P n1 = mm_ge1 t n) : mm_run P (pc, L, .long y :: .long x :: r, S) = if x < y then mm_run P (n, L, r, S) else mm_run P (t, L, r, S) := by
  rw [mm_run_eq]
  simp only [h1]
  show mm_run P (n1, L, .int (lg_cmp x y) :: r, S) = _
  rw [mm_b_ge1 h2]
  by_cases hc : x < y
  · rw [if_pos hc, if_pos ((mm_cmp0 x y).2.1.mpr hc)]
  · rw [if_neg hc, if_neg (fun q => hc ((mm_cmp0 x y).2.1.mp q))]
theorem mm_b_cgt {n1 : Nat} {x y : Int64} (h1 : P pc = mm_cmp n1) (h2 : P n1 = mm_gt1 t n) : mm_run P (pc, L, .long y :: .long x :: r, S) = if y < x then mm_run P (t, L, r, S) else mm_run P (n, L, r, S) := by
  rw [mm_run_eq]
  simp only [h1]
  show mm_run P (n1, L, .int (lg_cmp x y) :: r, S) = _
  rw [mm_b_gt1 h2]
  by_cases hc : y < x
  · rw [if_pos hc, if_pos ((mm_cmp0 x y).2.2.mpr hc)]
  · rw [if_neg hc, if_neg (fun q => hc ((mm_cmp0 x y).2.2.mp q))]
theorem mm_b_cle {n1 : Nat} {x y : Int64} (h1 : P pc = mm_cmp n1) (h2 : P n1 = mm_le1 t n) : mm_run P (pc, L, .long y :: .long x :: r, S) = if y < x then mm_run P (n, L, r, S) else mm_run P (t, L, r, S) := by
  rw [mm_run_eq]
  simp only [h1]
  show mm_run P (n1, L, .int (lg_cmp x y) :: r, S) = _
  rw [mm_b_le1 h2]
  by_cases hc : y < x
  · rw [if_pos hc, if_pos ((mm_cmp0 x y).2.2.mpr hc)]
  · rw [if_neg hc, if_neg (fun q => hc ((mm_cmp0 x y).2.2.mp q))]
theorem mm_b_ald {i : Int32} {k : Nat} (h : P pc = mm_ald n t) (ha : mm_isA S k t = true) : mm_run P (pc, L, .int i :: .ref k :: r, S) = if 0 ≤ i.toInt ∧ i.toInt < (mm_ln k : Int) then mm_run P (n, L, .int (S.2.2.2.2.2.1 k i.toInt.toNat) :: r, S) else none := by
  rw [mm_run_eq]
  simp only [h]
  unfold mm_ald
  dsimp only
  rw [ha, cond_true]
  by_cases hc : 0 ≤ i.toInt ∧ i.toInt < (mm_ln k : Int)
  · rw [if_pos hc, if_pos hc]
  · rw [if_neg hc, if_neg hc]
theorem mm_b_ald_t {i : Int32} {k : Nat} (h : P pc = mm_ald n t) (ha : mm_isA S k t = true) (hc : 0 ≤ i.toInt ∧ i.toInt < (mm_ln k : Int)) : mm_run P (pc, L, .int i :: .ref k :: r, S) = mm_run P (n, L, .int (S.2.2.2.2.2.1 k i.toInt.toNat) :: r, S) := by rw [mm_b_ald h ha, if_pos hc]
theorem mm_b_aldJ {i : Int32} {k : Nat} (h : P pc = mm_aldJ n) (ha : mm_isA S k 1 = true) : mm_run P (pc, L, .int i :: .ref k :: r, S) = if 0 ≤ i.toInt ∧ i.toInt < (mm_ln k : Int) then mm_run P (n, L, .long (S.2.2.2.2.2.2 k i.toInt.toNat) :: r, S) else none := by
  rw [mm_run_eq]
  simp only [h]
  unfold mm_aldJ
  dsimp only
  rw [ha, cond_true]
  by_cases hc : 0 ≤ i.toInt ∧ i.toInt < (mm_ln k : Int)
  · rw [if_pos hc, if_pos hc]
  · rw [if_neg hc, if_neg hc]
theorem mm_b_aldJ_t {i : Int32} {k : Nat} (h : P pc = mm_aldJ n) (ha : mm_isA S k 1 = true) (hc : 0 ≤ i.toInt ∧ i.toInt < (mm_ln k : Int)) : mm_run P (pc, L, .int i :: .ref k :: r, S) = mm_run P (n, L, .long (S.2.2.2.2.2.2 k i.toInt.toNat) :: r, S) := by rw [mm_b_aldJ h ha, if_pos hc]
theorem mm_b_ast {i v : Int32} {k : Nat} {g : Int32 → Int32} (h : P pc = mm_ast n t g) (ha : mm_isA S k t = true) : mm_run P (pc, L, .int v :: .int i :: .ref k :: r, S) = if 0 ≤ i.toInt ∧ i.toInt < (mm_ln k : Int) then mm_run P (n, L, r, (S.1, S.2.1, S.2.2.1, S.2.2.2.1, S.2.2.2.2.1, mm_up S.2.2.2.2.2.1 k i.toInt.toNat (g v), S.2.2.2.2.2.2)) else none := by
  rw [mm_run_eq]
  simp only [h]
  unfold mm_ast
  dsimp only
  rw [ha, cond_true]
  by_cases hc : 0 ≤ i.toInt ∧ i.toInt < (mm_ln k : Int)
  · rw [if_pos hc, if_pos hc]
  · rw [if_neg hc, if_neg hc]
theorem mm_b_ast_t {i v : Int32} {k : Nat} {g : Int32 → Int32} (h : P pc = mm_ast n t g) (ha : mm_isA S k t = true) (hc : 0 ≤ i.toInt ∧ i.toInt < (mm_ln k : Int)) : mm_run P (pc, L, .int v :: .int i :: .ref k :: r, S) = mm_run P (n, L, r, (S.1, S.2.1, S.2.2.1, S.2.2.2.1, S.2.2.2.2.1, mm_up S.2.2.2.2.2.1 k i.toInt.toNat (g v), S.2.2.2.2.2.2)) := by rw [mm_b_ast h ha, if_pos hc]
theorem mm_b_astJ {i : Int32} {v : Int64} {k : Nat} (h : P pc = mm_astJ n) (ha : mm_isA S k 1 = true) : mm_run P (pc, L, .long v :: .int i :: .ref k :: r, S) = if 0 ≤ i.toInt ∧ i.toInt < (mm_ln k : Int) then mm_run P (n, L, r, (S.1, S.2.1, S.2.2.1, S.2.2.2.1, S.2.2.2.2.1, S.2.2.2.2.2.1, mm_up S.2.2.2.2.2.2 k i.toInt.toNat v)) else none := by
  rw [mm_run_eq]
  simp only [h]
  unfold mm_astJ
  dsimp only
  rw [ha, cond_true]
  by_cases hc : 0 ≤ i.toInt ∧ i.toInt < (mm_ln k : Int)
  · rw [if_pos hc, if_pos hc]
  · rw [if_neg hc, if_neg hc]
theorem mm_b_astJ_t {i : Int32} {v : Int64} {k : Nat} (h : P pc = mm_astJ n) (ha : mm_isA S k 1 = true) (hc : 0 ≤ i.toInt ∧ i.toInt < (mm_ln k : Int)) : mm_run P (pc, L, .long v :: .int i :: .ref k :: r, S) = mm_run P (n, L, r, (S.1, S.2.1, S.2.2.1, S.2.2.2.1, S.2.2.2.2.1, S.2.2.2.2.2.1, mm_up S.2.2.2.2.2.2 k i.toInt.toNat v)) := by rw [mm_b_astJ h ha, if_pos hc]
theorem mm_b_pfZ {v : Int32} {k ci p : Nat} (h : P pc = mm_pfZ n ci p) (ha : mm_isO S k ci = true) : mm_run P (pc, L, .int v :: .ref k :: r, S) = if v = 0 ∨ v = 1 then mm_run P (n, L, r, (S.1, S.2.1, S.2.2.1, mm_up S.2.2.2.1 k p v, S.2.2.2.2)) else none := by
  rw [mm_run_eq]
  simp only [h]
  unfold mm_pfZ
  dsimp only
  rw [ha, cond_true]
  by_cases hc : v = 0 ∨ v = 1
  · rw [if_pos hc, if_pos hc]
  · rw [if_neg hc, if_neg hc]
theorem mm_b_pfZ_t {v : Int32} {k ci p : Nat} (h : P pc = mm_pfZ n ci p) (ha : mm_isO S k ci = true) (hc : v = 0 ∨ v = 1) : mm_run P (pc, L, .int v :: .ref k :: r, S) = mm_run P (n, L, r, (S.1, S.2.1, S.2.2.1, mm_up S.2.2.2.1 k p v, S.2.2.2.2)) := by rw [mm_b_pfZ h ha, if_pos hc]
theorem mm_b_rtZ {v : Int32} (h : P pc = mm_rtZ)  : mm_run P (pc, L, [.int v], S) = if v = 0 ∨ v = 1 then some (.inl (some (.int v)), S) else none := by
  rw [mm_run_eq]
  simp only [h]
  unfold mm_rtZ
  dsimp only
  skip
  by_cases hc : v = 0 ∨ v = 1
  · rw [if_pos hc, if_pos hc]
  · rw [if_neg hc, if_neg hc]
theorem mm_b_rtZ_t {v : Int32} (h : P pc = mm_rtZ)  (hc : v = 0 ∨ v = 1) : mm_run P (pc, L, [.int v], S) = some (.inl (some (.int v)), S) := by rw [mm_b_rtZ h , if_pos hc]
theorem mm_b_rtC {v : Int32} (h : P pc = mm_rtC)  : mm_run P (pc, L, [.int v], S) = if 0 ≤ v.toInt ∧ v.toInt < 65536 then some (.inl (some (.int v)), S) else none := by
  rw [mm_run_eq]
  simp only [h]
  unfold mm_rtC
  dsimp only
  skip
  by_cases hc : 0 ≤ v.toInt ∧ v.toInt < 65536
  · rw [if_pos hc, if_pos hc]
  · rw [if_neg hc, if_neg hc]
theorem mm_b_rtC_t {v : Int32} (h : P pc = mm_rtC)  (hc : 0 ≤ v.toInt ∧ v.toInt < 65536) : mm_run P (pc, L, [.int v], S) = some (.inl (some (.int v)), S) := by rw [mm_b_rtC h , if_pos hc]
theorem mm_b_scr {i : Int32} {Ln : Nat} {xs : Nat → Int32} (h : P pc = mm_scr n Ln xs) : mm_run P (pc, L, .int i :: .ref 2000 :: r, S) = if 0 ≤ i.toInt ∧ i.toInt < (Ln : Int) then mm_run P (n, L, .int (xs i.toInt.toNat) :: r, S) else none := by
  rw [mm_run_eq]
  simp only [h]
  unfold mm_scr
  dsimp only
  rw [show Nat.beq 2000 2000 = true from rfl, cond_true]
  by_cases hc : 0 ≤ i.toInt ∧ i.toInt < (Ln : Int)
  · rw [if_pos hc, if_pos hc]
  · rw [if_neg hc, if_neg hc]
theorem mm_b_aldS {i : Int32} {k : Nat} {z : String × String × Nat × List Int32} {q : Nat} (h : P pc = mm_aldS n k) (hz : mm_sta[k]? = some z) (hq : 1000 + k = q) : mm_run P (pc, L, .int i :: .ref q :: r, S) = if 0 ≤ i.toInt ∧ i.toInt < (z.2.2.1 : Int) then mm_run P (n, L, .int (z.2.2.2.getD i.toInt.toNat 0) :: r, S) else none := by
  subst hq
  rw [mm_run_eq]
  simp only [h]
  unfold mm_aldS
  dsimp only
  rw [Nat.beq_refl, cond_true, hz]
  dsimp only
  by_cases hc : 0 ≤ i.toInt ∧ i.toInt < (z.2.2.1 : Int)
  · rw [if_pos hc, if_pos hc]
  · rw [if_neg hc, if_neg hc]
theorem mm_b_i3 {x y : Int32} {g : Int32 → Int32 → Int32} (h : P pc = mm_i3 n g) : mm_run P (pc, L, .int y :: .int x :: r, S) = if y = 0 then none else mm_run P (n, L, .int (g x y) :: r, S) := by
  rw [mm_run_eq]
  simp only [h]
  unfold mm_i3
  dsimp only
  by_cases hc : y = 0
  · rw [if_pos hc, if_pos hc]
  · rw [if_neg hc, if_neg hc]
theorem mm_b_i3_t {x y : Int32} {g : Int32 → Int32 → Int32} (h : P pc = mm_i3 n g) (hc : ¬ y = 0) : mm_run P (pc, L, .int y :: .int x :: r, S) = mm_run P (n, L, .int (g x y) :: r, S) := by rw [mm_b_i3 h, if_neg hc]
theorem mm_b_l3 {x y : Int64} {g : Int64 → Int64 → Int64} (h : P pc = mm_l3 n g) : mm_run P (pc, L, .long y :: .long x :: r, S) = if y = 0 then none else mm_run P (n, L, .long (g x y) :: r, S) := by
  rw [mm_run_eq]
  simp only [h]
  unfold mm_l3
  dsimp only
  by_cases hc : y = 0
  · rw [if_pos hc, if_pos hc]
  · rw [if_neg hc, if_neg hc]
theorem mm_b_l3_t {x y : Int64} {g : Int64 → Int64 → Int64} (h : P pc = mm_l3 n g) (hc : ¬ y = 0) : mm_run P (pc, L, .long y :: .long x :: r, S) = mm_run P (n, L, .long (g x y) :: r, S) := by rw [mm_b_l3 h, if_neg hc]
theorem mm_b_clV {ci na k : Nat} {f : mm_F} {as rt : List Value} (h : P pc = mm_clV n ci na f) (hs : (st.take (na + 1)).reverse = .ref k :: as) (hb : (mm_isO S k ci && Nat.ble (na + 1) st.length && Nat.ble (mm_cat (st.drop (na + 1))) 8) = true) (hr : st.drop (na + 1) = rt) : mm_run P (pc, L, st, S) = mm_aft P n L rt (f (.ref k :: as) S) := by
  subst hr
  rw [mm_run_eq]
  simp only [h]
  unfold mm_clV
  rw [hs]
  dsimp only
  rw [hb, cond_true]
  unfold mm_aft
  cases f (.ref k :: as) S with
  | none => rfl
  | some q =>
    obtain ⟨o, S'⟩ := q
    cases o <;> rfl
theorem mm_b_clS {na : Nat} {f : mm_F} {as rt : List Value} (h : P pc = mm_clS n na f) (hs : (st.take na).reverse = as) (hb : (Nat.ble na st.length && Nat.ble (mm_cat (st.drop na)) 8) = true) (hr : st.drop na = rt) : mm_run P (pc, L, st, S) = mm_aft P n L rt (f as S) := by
  subst hr
  rw [mm_run_eq]
  simp only [h]
  unfold mm_clS
  rw [hb, cond_true, hs]
  unfold mm_aft
  cases f as S with
  | none => rfl
  | some q =>
    obtain ⟨o, S'⟩ := q
    cases o <;> rfl
theorem mm_b_clC {ci na k : Nat} {f : mm_F} {as rt : List Value} {hl : List (Nat × Nat × Nat)} (h : P pc = mm_clC n ci na f hl) (hs : (st.take (na + 1)).reverse = .ref k :: as) (hb : (mm_isO S k ci && Nat.ble (na + 1) st.length && Nat.ble (mm_cat (st.drop (na + 1))) 8) = true) (hr : st.drop (na + 1) = rt) : mm_run P (pc, L, st, S) = mm_aftC P n L rt hl (f (.ref k :: as) S) := by
  subst hr
  rw [mm_run_eq]
  simp only [h]
  unfold mm_clC
  rw [hs]
  dsimp only
  rw [hb, cond_true]
  unfold mm_aftC
  cases f (.ref k :: as) S with
  | none => rfl
  | some q =>
    obtain ⟨o, S'⟩ := q
    cases o with
    | inl v => rfl
    | inr E =>
      dsimp only
      cases hl.find? (fun q => Nat.beq q.1 E) <;> rfl
theorem mm_b_clCS {na : Nat} {f : mm_F} {as rt : List Value} {hl : List (Nat × Nat × Nat)} (h : P pc = mm_clCS n na f hl) (hs : (st.take na).reverse = as) (hb : (Nat.ble na st.length && Nat.ble (mm_cat (st.drop na)) 8) = true) (hr : st.drop na = rt) : mm_run P (pc, L, st, S) = mm_aftC P n L rt hl (f as S) := by
  subst hr
  rw [mm_run_eq]
  simp only [h]
  unfold mm_clCS
  rw [hb, cond_true, hs]
  unfold mm_aftC
  cases f as S with
  | none => rfl
  | some q =>
    obtain ⟨o, S'⟩ := q
    cases o with
    | inl v => rfl
    | inr E =>
      dsimp only
      cases hl.find? (fun q => Nat.beq q.1 E) <;> rfl
end BR
