/-! the layout of the world: by program (wip/p32/gen/genlay.py) -/
def mm_layL : List (Nat ⊕ (Nat × Nat)) := [.inl 10, .inl 1, .inr (0, 36), .inr (0, 36), .inr (0, 216), .inr (1, 36), .inr (1, 4), .inl 6, .inr (0, 37), .inl 0, .inl 2, .inr (0, 9), .inr (0, 512), .inr (2, 1024), .inr (2, 19683), .inl 4, .inl 2, .inr (0, 9), .inr (0, 512), .inr (2, 512), .inr (2, 19683), .inl 9, .inr (0, 108), .inl 7, .inl 5, .inr (3, 30), .inr (3, 180), .inr (0, 6), .inr (0, 24), .inr (0, 6), .inl 8, .inr (0, 2), .inr (0, 2), .inr (0, 2), .inl 3, .inr (0, 10), .inr (0, 10), .inr (0, 10), .inr (0, 10), .inl 10, .inl 1, .inr (0, 36), .inr (0, 36), .inr (0, 216), .inr (1, 36), .inr (1, 4), .inl 6, .inr (0, 37), .inl 0, .inl 2, .inr (0, 9), .inr (0, 512), .inr (2, 1024), .inr (2, 19683), .inl 4, .inl 2, .inr (0, 9), .inr (0, 512), .inr (2, 512), .inr (2, 19683), .inl 9, .inr (0, 108), .inl 7, .inl 5, .inr (3, 30), .inr (3, 180), .inr (0, 6), .inr (0, 24), .inr (0, 6), .inl 8, .inr (0, 2), .inr (0, 2), .inr (0, 2), .inl 3, .inr (0, 10), .inr (0, 10), .inr (0, 10), .inr (0, 10), .inr (0, 6)]
def mm_lay (k : Nat) : Nat ⊕ (Nat × Nat) := mm_layL.getD k (.inr (9, 0))
def mm_ty (ci : Nat) : Nat → FieldType := [tyX0, tyX1, tyX2, tyX3, tyX4, tyX5, tyX6, tyX7, tyX8, tyX9, tyX10].getD ci tyX0
/-! the small machine: a store of fixed shape, told by numbers of its cells; what it does is held to the machine once and for all in the next part -/
/-- cells made so far; exceptions made so far; fields that hold references; int fields; long fields; rows of ints (bytes, chars too); rows of longs -/
abbrev mm_S : Type := Nat × Nat × (Nat → Nat → Value) × (Nat → Nat → Int32) × (Nat → Nat → Int64) × (Nat → Nat → Int32) × (Nat → Nat → Int64)
abbrev mm_L : Type := List (Option Value)
abbrev mm_C : Type := Nat × mm_L × List Value × mm_S
abbrev mm_R : Type := (Option Value ⊕ Nat) × mm_S
abbrev mm_I : Type := mm_L → List Value → mm_S → Option (mm_C ⊕ mm_R)
abbrev mm_F : Type := List Value → mm_S → Option mm_R
def mm_kd (ci p : Nat) : Nat := match mm_ty ci p with
  | .long => 1
  | .object _ => 2
  | .array _ => 2
  | _ => 0
def mm_nf (ci : Nat) : Nat := (vwCl.getD ci (RX0, TX0, 0)).2.2
def mm_isO (S : mm_S) (k ci : Nat) : Bool := Nat.blt k S.1 && (match mm_lay k with
  | .inl c => Nat.beq c ci
  | .inr _ => false)
def mm_isA (S : mm_S) (k t : Nat) : Bool := Nat.blt k S.1 && (match mm_lay k with
  | .inl _ => false
  | .inr q => Nat.beq q.1 t)
def mm_ln (k : Nat) : Nat := match mm_lay k with
  | .inl _ => 0
  | .inr q => q.2
def mm_up {α : Type} (f : Nat → Nat → α) (k p : Nat) (v : α) : Nat → Nat → α := fun i j => if i = k then (if j = p then v else f i j) else f i j
/-- the static rows of ints -/
def mm_sta : List (String × String × Nat × List Int32) := [("Linkcourt$Board", "ROW_STEPS", 6, [0, 1, 1, 0, -1, -1]), ("Linkcourt$Board", "COLUMN_STEPS", 6, [1, 0, -1, -1, 0, 1]), ("Linkcourt$Board", "TRIANGLE_COLUMN_STEPS", 6, [1, 1, 0, -1, -1, 0])]
/-- what a store at a place makes of a long just ahead of it -/
def mm_cl : Option Value → Option Value
  | some (.long _) => none
  | some (.double _) => none
  | o => o
def mm_s0 (L : mm_L) : Nat → mm_L
  | 0 => L
  | i + 1 => L.modify i mm_cl
def mm_s1 (L : mm_L) (i : Nat) (v : Value) : mm_L := (mm_s0 L i).set i (some v)
def mm_s2 (L : mm_L) (i : Nat) (v : Value) : mm_L := ((mm_s0 L i).set i (some v)).set (i + 1) none
/-! instructions; n is the place of the next one -/
def mm_k (n : Nat) (v : Value) : mm_I := fun L st S => some (.inl (n, L, v :: st, S))
def mm_ldI (n i : Nat) : mm_I := fun L st S => match L[i]? with
  | some (some (.int v)) => some (.inl (n, L, .int v :: st, S))
  | _ => none
def mm_ldJ (n i : Nat) : mm_I := fun L st S => match L[i]? with
  | some (some (.long v)) => some (.inl (n, L, .long v :: st, S))
  | _ => none
def mm_ldR (n i : Nat) : mm_I := fun L st S => match L[i]? with
  | some (some (.ref v)) => some (.inl (n, L, .ref v :: st, S))
  | _ => none
def mm_stI (n i : Nat) : mm_I := fun L st S => match st with
  | .int v :: r => some (.inl (n, mm_s1 L i (.int v), r, S))
  | _ => none
def mm_stJ (n i : Nat) : mm_I := fun L st S => match st with
  | .long v :: r => some (.inl (n, mm_s2 L i (.long v), r, S))
  | _ => none
def mm_stR (n i : Nat) : mm_I := fun L st S => match st with
  | .ref v :: r => some (.inl (n, mm_s1 L i (.ref v), r, S))
  | _ => none
def mm_inc (n i : Nat) (d : Int32) : mm_I := fun L st S => match L[i]? with
  | some (some (.int v)) => some (.inl (n, mm_s1 L i (.int (v + d)), st, S))
  | _ => none
def mm_dup (n : Nat) : mm_I := fun L st S => match st with
  | v :: r => bif Nat.beq v.category 1 then some (.inl (n, L, v :: v :: r, S)) else none
  | _ => none
def mm_dup2 (n : Nat) : mm_I := fun L st S => match st with
  | v :: w :: r => bif Nat.beq v.category 1 && Nat.beq w.category 1 then some (.inl (n, L, v :: w :: v :: w :: r, S)) else none
  | _ => none
def mm_pop (n : Nat) : mm_I := fun L st S => match st with
  | v :: r => bif Nat.beq v.category 1 then some (.inl (n, L, r, S)) else none
  | _ => none
def mm_i2 (n : Nat) (g : Int32 → Int32 → Int32) : mm_I := fun L st S => match st with
  | .int y :: .int x :: r => some (.inl (n, L, .int (g x y) :: r, S))
  | _ => none
/-- a quotient or rest: not by 0 -/
def mm_i3 (n : Nat) (g : Int32 → Int32 → Int32) : mm_I := fun L st S => match st with
  | .int y :: .int x :: r => if y = 0 then none else some (.inl (n, L, .int (g x y) :: r, S))
  | _ => none
def mm_i1 (n : Nat) (g : Int32 → Int32) : mm_I := fun L st S => match st with
  | .int x :: r => some (.inl (n, L, .int (g x) :: r, S))
  | _ => none
def mm_l2 (n : Nat) (g : Int64 → Int64 → Int64) : mm_I := fun L st S => match st with
  | .long y :: .long x :: r => some (.inl (n, L, .long (g x y) :: r, S))
  | _ => none
def mm_l3 (n : Nat) (g : Int64 → Int64 → Int64) : mm_I := fun L st S => match st with
  | .long y :: .long x :: r => if y = 0 then none else some (.inl (n, L, .long (g x y) :: r, S))
  | _ => none
def mm_l1 (n : Nat) (g : Int64 → Int64) : mm_I := fun L st S => match st with
  | .long x :: r => some (.inl (n, L, .long (g x) :: r, S))
  | _ => none
def mm_ls (n : Nat) (g : Int64 → Int32 → Int64) : mm_I := fun L st S => match st with
  | .int y :: .long x :: r => some (.inl (n, L, .long (g x y) :: r, S))
  | _ => none
def mm_il (n : Nat) (g : Int32 → Int64) : mm_I := fun L st S => match st with
  | .int x :: r => some (.inl (n, L, .long (g x) :: r, S))
  | _ => none
def mm_li (n : Nat) (g : Int64 → Int32) : mm_I := fun L st S => match st with
  | .long x :: r => some (.inl (n, L, .int (g x) :: r, S))
  | _ => none
def mm_cmp (n : Nat) : mm_I := fun L st S => match st with
  | .long y :: .long x :: r => some (.inl (n, L, .int (lg_cmp x y) :: r, S))
  | _ => none
def mm_go (t : Nat) : mm_I := fun L st S => some (.inl (t, L, st, S))
def mm_eq2 (t n : Nat) : mm_I := fun L st S => match st with
  | .int y :: .int x :: r => some (.inl (if x = y then t else n, L, r, S))
  | _ => none
def mm_ne2 (t n : Nat) : mm_I := fun L st S => match st with
  | .int y :: .int x :: r => some (.inl (if x = y then n else t, L, r, S))
  | _ => none
def mm_lt2 (t n : Nat) : mm_I := fun L st S => match st with
  | .int y :: .int x :: r => some (.inl (if x < y then t else n, L, r, S))
  | _ => none
def mm_ge2 (t n : Nat) : mm_I := fun L st S => match st with
  | .int y :: .int x :: r => some (.inl (if x < y then n else t, L, r, S))
  | _ => none
def mm_gt2 (t n : Nat) : mm_I := fun L st S => match st with
  | .int y :: .int x :: r => some (.inl (if y < x then t else n, L, r, S))
  | _ => none
def mm_le2 (t n : Nat) : mm_I := fun L st S => match st with
  | .int y :: .int x :: r => some (.inl (if y < x then n else t, L, r, S))
  | _ => none
def mm_eq1 (t n : Nat) : mm_I := fun L st S => match st with
  | .int x :: r => some (.inl (if x = 0 then t else n, L, r, S))
  | _ => none
def mm_ne1 (t n : Nat) : mm_I := fun L st S => match st with
  | .int x :: r => some (.inl (if x = 0 then n else t, L, r, S))
  | _ => none
def mm_lt1 (t n : Nat) : mm_I := fun L st S => match st with
  | .int x :: r => some (.inl (if x < 0 then t else n, L, r, S))
  | _ => none
def mm_ge1 (t n : Nat) : mm_I := fun L st S => match st with
  | .int x :: r => some (.inl (if x < 0 then n else t, L, r, S))
  | _ => none
def mm_gt1 (t n : Nat) : mm_I := fun L st S => match st with
  | .int x :: r => some (.inl (if 0 < x then t else n, L, r, S))
  | _ => none
def mm_le1 (t n : Nat) : mm_I := fun L st S => match st with
  | .int x :: r => some (.inl (if 0 < x then n else t, L, r, S))
  | _ => none
def mm_tsw (lo hi : Int) (d : Nat) (ts : List Nat) : mm_I := fun L st S => match st with
  | .int x :: r => some (.inl (if x.toInt < lo ∨ hi < x.toInt then d else ts.getD (x.toInt - lo).toNat d, L, r, S))
  | _ => none
def mm_lsf (x : Int) (d : Nat) : List (Int × Nat) → Nat
  | [] => d
  | q :: qs => if q.1 = x then q.2 else mm_lsf x d qs
def mm_lsw (d : Nat) (ts : List (Int × Nat)) : mm_I := fun L st S => match st with
  | .int x :: r => some (.inl (mm_lsf x.toInt d ts, L, r, S))
  | _ => none
def mm_gfI (n ci p : Nat) : mm_I := fun L st S => match st with
  | .ref k :: r => bif mm_isO S k ci then some (.inl (n, L, .int (S.2.2.2.1 k p) :: r, S)) else none
  | _ => none
def mm_gfJ (n ci p : Nat) : mm_I := fun L st S => match st with
  | .ref k :: r => bif mm_isO S k ci then some (.inl (n, L, .long (S.2.2.2.2.1 k p) :: r, S)) else none
  | _ => none
def mm_gfR (n ci p : Nat) : mm_I := fun L st S => match st with
  | .ref k :: r => bif mm_isO S k ci then some (.inl (n, L, S.2.2.1 k p :: r, S)) else none
  | _ => none
def mm_pfI (n ci p : Nat) : mm_I := fun L st S => match st with
  | .int v :: .ref k :: r => bif mm_isO S k ci then some (.inl (n, L, r, (S.1, S.2.1, S.2.2.1, mm_up S.2.2.2.1 k p v, S.2.2.2.2))) else none
  | _ => none
/-- a truth value's field -/
def mm_pfZ (n ci p : Nat) : mm_I := fun L st S => match st with
  | .int v :: .ref k :: r => bif mm_isO S k ci then (if v = 0 ∨ v = 1 then some (.inl (n, L, r, (S.1, S.2.1, S.2.2.1, mm_up S.2.2.2.1 k p v, S.2.2.2.2))) else none) else none
  | _ => none
def mm_pfJ (n ci p : Nat) : mm_I := fun L st S => match st with
  | .long v :: .ref k :: r => bif mm_isO S k ci then some (.inl (n, L, r, (S.1, S.2.1, S.2.2.1, S.2.2.2.1, mm_up S.2.2.2.2.1 k p v, S.2.2.2.2.2))) else none
  | _ => none
def mm_pfR (n ci p : Nat) : mm_I := fun L st S => match st with
  | .ref v :: .ref k :: r => bif mm_isO S k ci then some (.inl (n, L, r, (S.1, S.2.1, mm_up S.2.2.1 k p (.ref v), S.2.2.2))) else none
  | _ => none
/-- a row of ints (t 0), bytes (2), chars (3) -/
def mm_ald (n t : Nat) : mm_I := fun L st S => match st with
  | .int i :: .ref k :: r => bif mm_isA S k t then (if 0 ≤ i.toInt ∧ i.toInt < mm_ln k then some (.inl (n, L, .int (S.2.2.2.2.2.1 k i.toInt.toNat) :: r, S)) else none) else none
  | _ => none
def mm_aldJ (n : Nat) : mm_I := fun L st S => match st with
  | .int i :: .ref k :: r => bif mm_isA S k 1 then (if 0 ≤ i.toInt ∧ i.toInt < mm_ln k then some (.inl (n, L, .long (S.2.2.2.2.2.2 k i.toInt.toNat) :: r, S)) else none) else none
  | _ => none
/-- a static row of ints: k is its place in mm_sta -/
def mm_aldS (n k : Nat) : mm_I := fun L st S => match st with
  | .int i :: .ref q :: r => bif Nat.beq q (1000 + k) then (match mm_sta[k]? with
    | some z => if 0 ≤ i.toInt ∧ i.toInt < z.2.2.1 then some (.inl (n, L, .int (z.2.2.2.getD i.toInt.toNat 0) :: r, S)) else none
    | none => none) else none
  | _ => none
def mm_ast (n t : Nat) (g : Int32 → Int32) : mm_I := fun L st S => match st with
  | .int v :: .int i :: .ref k :: r => bif mm_isA S k t then (if 0 ≤ i.toInt ∧ i.toInt < mm_ln k then some (.inl (n, L, r, (S.1, S.2.1, S.2.2.1, S.2.2.2.1, S.2.2.2.2.1, mm_up S.2.2.2.2.2.1 k i.toInt.toNat (g v), S.2.2.2.2.2.2))) else none) else none
  | _ => none
def mm_astJ (n : Nat) : mm_I := fun L st S => match st with
  | .long v :: .int i :: .ref k :: r => bif mm_isA S k 1 then (if 0 ≤ i.toInt ∧ i.toInt < mm_ln k then some (.inl (n, L, r, (S.1, S.2.1, S.2.2.1, S.2.2.2.1, S.2.2.2.2.1, S.2.2.2.2.2.1, mm_up S.2.2.2.2.2.2 k i.toInt.toNat v))) else none) else none
  | _ => none
def mm_aln (n t : Nat) : mm_I := fun L st S => match st with
  | .ref k :: r => bif mm_isA S k t then some (.inl (n, L, .int (Int32.ofNat (mm_ln k)) :: r, S)) else none
  | _ => none
def mm_new (n ci : Nat) : mm_I := fun L st S => match mm_lay S.1 with
  | .inl c => bif Nat.beq c ci then some (.inl (n, L, .ref S.1 :: st, (S.1 + 1, S.2.1, (fun i j => if i = S.1 then .null else S.2.2.1 i j), (fun i j => if i = S.1 then 0 else S.2.2.2.1 i j), (fun i j => if i = S.1 then 0 else S.2.2.2.2.1 i j), S.2.2.2.2.2))) else none
  | _ => none
def mm_nwa (n t : Nat) : mm_I := fun L st S => match st with
  | .int v :: r => (match mm_lay S.1 with
    | .inr q => if q.1 = t ∧ v.toInt = q.2 then some (.inl (n, L, .ref S.1 :: r, (S.1 + 1, S.2.1, S.2.2.1, S.2.2.2.1, S.2.2.2.2.1, (fun i j => if i = S.1 then 0 else S.2.2.2.2.2.1 i j), (fun i j => if i = S.1 then 0 else S.2.2.2.2.2.2 i j)))) else none
    | .inl _ => none)
  | _ => none
def mm_cat (st : List Value) : Nat := (st.map fun v => v.category).sum
/-- Object.<init> -/
def mm_obj (n : Nat) : mm_I := fun L st S => match st with
  | .ref k :: r => bif Nat.blt k S.1 && Nat.ble (mm_cat r) 8 then some (.inl (n, L, r, S)) else none
  | _ => none
/-- a call of a method of an object of class ci, with na arguments beside it -/
def mm_clV (n ci na : Nat) (f : mm_F) : mm_I := fun L st S => match (st.take (na + 1)).reverse with
  | .ref k :: as => bif mm_isO S k ci && Nat.ble (na + 1) st.length && Nat.ble (mm_cat (st.drop (na + 1))) 8 then (match f (.ref k :: as) S with
    | some (.inl v, S') => some (.inl (n, L, v.toList ++ st.drop (na + 1), S'))
    | some (.inr E, S') => some (.inr (.inr E, S'))
    | none => none) else none
  | _ => none
def mm_clS (n na : Nat) (f : mm_F) : mm_I := fun L st S => bif Nat.ble na st.length && Nat.ble (mm_cat (st.drop na)) 8 then (match f (st.take na).reverse S with
    | some (.inl v, S') => some (.inl (n, L, v.toList ++ st.drop na, S'))
    | some (.inr E, S') => some (.inr (.inr E, S'))
    | none => none) else none
def mm_rtI : mm_I := fun _ st S => match st with
  | [.int v] => some (.inr (.inl (some (.int v)), S))
  | _ => none
def mm_rtZ : mm_I := fun _ st S => match st with
  | [.int v] => if v = 0 ∨ v = 1 then some (.inr (.inl (some (.int v)), S)) else none
  | _ => none
def mm_rtC : mm_I := fun _ st S => match st with
  | [.int v] => if 0 ≤ v.toInt ∧ v.toInt < 65536 then some (.inr (.inl (some (.int v)), S)) else none
  | _ => none
def mm_rtJ : mm_I := fun _ st S => match st with
  | [.long v] => some (.inr (.inl (some (.long v)), S))
  | _ => none
def mm_rtV : mm_I := fun _ st S => match st with
  | [] => some (.inr (.inl none, S))
  | _ => none
/-- throw new X("text") -/
def mm_thr (E : Nat) : mm_I := fun _ st S => bif Nat.ble (mm_cat st) 8 then some (.inr (.inr E, (S.1, S.2.1 + 1, S.2.2))) else none
/-- the names of the exceptions, by number -/
def mm_xn (E : Nat) : String := if E = 1 then "java/lang/IndexOutOfBoundsException" else if E = 2 then "java/lang/IllegalArgumentException" else "java/lang/IllegalStateException"
/-! running -/
def mm_ex (P : Nat → mm_I) : Nat → mm_C → Option mm_R
  | 0, _ => none
  | n + 1, c => match P c.1 c.2.1 c.2.2.1 c.2.2.2 with
    | none => none
    | some (.inl c') => mm_ex P n c'
    | some (.inr r) => some r
noncomputable def mm_run (P : Nat → mm_I) (c : mm_C) : Option mm_R :=
  @dite (Option mm_R) (∃ r n, mm_ex P n c = some r) (Classical.propDecidable _) (fun h => some (Classical.choose h)) (fun _ => none)
theorem mm_ex_mono {P : Nat → mm_I} {r : mm_R} : ∀ (n : Nat) (c : mm_C) (k : Nat), mm_ex P n c = some r → mm_ex P (n + k) c = some r := by
  intro n
  induction n with
  | zero => intro c k h; cases h
  | succ n ih =>
    intro c k h
    rw [Nat.succ_add]
    unfold mm_ex at h ⊢
    split at h
    · cases h
    · next c' hc => exact ih c' k h
    · next r' hc => exact h
theorem mm_run_iff {P : Nat → mm_I} {c : mm_C} {r : mm_R} : mm_run P c = some r ↔ ∃ n, mm_ex P n c = some r := by
  unfold mm_run
  constructor
  · intro h
    split at h
    · next h0 =>
      cases h
      exact Classical.choose_spec h0
    · cases h
  · rintro ⟨n, hn⟩
    have h0 : ∃ r n, mm_ex P n c = some r := ⟨r, n, hn⟩
    split
    · next h1 =>
      obtain ⟨k, hk⟩ := Classical.choose_spec h1
      have a := mm_ex_mono n c k hn
      have b := mm_ex_mono k c n hk
      rw [Nat.add_comm] at b
      exact b.symm.trans a
    · next h1 => exact absurd h0 h1
theorem mm_run_eq (P : Nat → mm_I) (c : mm_C) : mm_run P c = (match P c.1 c.2.1 c.2.2.1 c.2.2.2 with
    | none => none
    | some (.inl c') => mm_run P c'
    | some (.inr r) => some r) := by
  apply Option.ext
  intro r
  rw [mm_run_iff]
  constructor
  · rintro ⟨n, hn⟩
    cases n with
    | zero => cases hn
    | succ n =>
      unfold mm_ex at hn
      split at hn
      · cases hn
      · next c' hc => exact mm_run_iff.mpr ⟨n, hn⟩
      · next r' hc => exact hn
  · intro h
    split at h
    · cases h
    · next c' hc =>
      obtain ⟨n, hn⟩ := mm_run_iff.mp h
      refine ⟨n + 1, ?_⟩
      unfold mm_ex
      rw [hc]
      exact hn
    · next r' hc =>
      refine ⟨1, ?_⟩
      unfold mm_ex
      rw [hc]
      exact h
/-- the locals with which a method begins -/
def mm_la : List Value → mm_L
  | [] => []
  | v :: vs => if v.category = 2 then some v :: none :: mm_la vs else some v :: mm_la vs
def mm_en (n : Nat) (as : List Value) : mm_L := mm_la as ++ List.replicate (n - (mm_la as).length) none
/-- what a method does: its code from its entry -/
noncomputable def mm_do (P : Nat → mm_I) (n : Nat) : mm_F := fun as S => bif Nat.ble (mm_la as).length n then mm_run P (0, mm_en n as, [], S) else none
/-- a code, as a list of places and instructions -/
def mm_pr (ts : List (Nat × mm_I)) (pc : Nat) : mm_I := match ts.find? (fun q => Nat.beq q.1 pc) with
  | some q => q.2
  | none => fun _ _ _ => none
