/-! boards -/
theorem ret_ite {c : Prop} [Decidable c] (a b : Int32) (S : mm_S) : (some (Sum.inl (some (Value.int (if c then a else b))), S) : Option mm_R) = if c then some (.inl (some (.int a)), S) else some (.inl (some (.int b)), S) := by
  by_cases h : c
  · rw [if_pos h, if_pos h]
  · rw [if_neg h, if_neg h]
theorem retJ_ite {c : Prop} [Decidable c] (a b : Int64) (S : mm_S) : (some (Sum.inl (some (Value.long (if c then a else b))), S) : Option mm_R) = if c then some (.inl (some (.long a)), S) else some (.inl (some (.long b)), S) := by
  by_cases h : c
  · rw [if_pos h, if_pos h]
  · rw [if_neg h, if_neg h]
def bV (K R C : Nat) : Bool := Nat.blt K 3 && Nat.ble 2 R && Nat.ble R 6 && Nat.ble C 6 && (bif Nat.beq K 1 then Nat.beq C R else bif Nat.beq K 2 then Nat.ble 3 C else Nat.ble 2 C)
def bN (K R C : Nat) : Nat := bif Nat.beq K 1 then R * (R + 1) / 2 else R * C
def bS (K C r : Nat) : Nat := bif Nat.beq K 1 then r * (r + 1) / 2 else r * C
def bW (K C r : Nat) : Nat := bif Nat.beq K 1 then r + 1 else C
def triR (c : Nat) : Nat := if c < 1 then 0 else if c < 3 then 1 else if c < 6 then 2 else if c < 10 then 3 else if c < 15 then 4 else 5
def bRo (K C c : Nat) : Nat := bif Nat.beq K 1 then triR c else c / C
def bCo (K C c : Nat) : Nat := bif Nat.beq K 1 then c - triR c * (triR c + 1) / 2 else c % C
def bSd (K : Nat) : Nat := bif Nat.beq K 0 then 4 else bif Nat.beq K 1 then 3 else 2
def atC (R K C x1 x2 : Int32) : Int32 :=
  if x1 < i32 0 then iN else if x1 < R then (if K = i32 1 then (if x2 < i32 0 then iN else if x1 < x2 then iN else x1 * (x1 + i32 1) / i32 2 + x2) else if K = i32 2 then x1 * C + (if x2 < i32 0 then C - i32 1 else if x2 < C then x2 else i32 0) else (if x2 < i32 0 then iN else if x2 < C then x1 * C + x2 else iN)) else iN
def stR (d : Nat) : Int32 := ([0, 1, 1, 0, -1, -1] : List Int32).getD d 0
def stC (K d : Nat) : Int32 := bif Nat.beq K 1 then ([1, 1, 0, -1, -1, 0] : List Int32).getD d 0 else ([1, 0, -1, -1, 0, 1] : List Int32).getD d 0
def bNx (K R C c d : Nat) : Int32 := atC (i32 R) (i32 K) (i32 C) (i32 (bRo K C c) + stR d) (i32 (bCo K C c) + stC K d)
/-- cell and side, by row and column -/
def bAt (K R C c s : Nat) : Bool :=
  bif Nat.beq K 2 then (bif Nat.beq s 0 then Nat.beq (bRo K C c) 0 else Nat.beq (bRo K C c) (R - 1))
  else bif Nat.beq K 1 then (bif Nat.beq s 0 then Nat.beq (bCo K C c) 0 else bif Nat.beq s 1 then Nat.beq (bCo K C c) (bRo K C c) else Nat.beq (bRo K C c) (R - 1))
  else (bif Nat.beq s 0 then Nat.beq (bCo K C c) 0 else bif Nat.beq s 1 then Nat.beq (bCo K C c) (C - 1) else bif Nat.beq s 2 then Nat.beq (bRo K C c) 0 else Nat.beq (bRo K C c) (R - 1))
def bSs (K R C s : Nat) : Int64 := ms (fun c => Nat.blt s (bSd K) && bAt K R C c s) (bN K R C)
/-- is d beside c -/
def bBe (K R C c d : Nat) : Bool := decide (bNx K R C c 0 = i32 d) || decide (bNx K R C c 1 = i32 d) || decide (bNx K R C c 2 = i32 d) || decide (bNx K R C c 3 = i32 d) || decide (bNx K R C c 4 = i32 d) || decide (bNx K R C c 5 = i32 d)
def bNb (K R C c : Nat) : Int64 := ms (bBe K R C c) (bN K R C)
def bAll (p : Nat → Nat → Nat → Bool) : Bool := (List.range 3).all fun K => (List.range 7).all fun R => (List.range 7).all fun C => !bV K R C || p K R C
theorem bAll_of {p : Nat → Nat → Nat → Bool} (h : bAll p = true) {K R C : Nat} (v : bV K R C = true) : p K R C = true := by
  have hv := v
  unfold bV at hv
  simp only [Bool.and_eq_true, Nat.blt_eq, Nat.ble_eq] at hv
  unfold bAll at h
  simp only [List.all_eq_true, List.mem_range] at h
  have := h K (by omega) R (by omega) C (by omega)
  rw [v] at this
  simpa using this
def all2 (n m : Nat) (p : Nat → Nat → Bool) : Bool := (List.range n).all fun i => (List.range m).all fun j => p i j
theorem all2_of {n m : Nat} {p : Nat → Nat → Bool} (h : all2 n m p = true) {i j : Nat} (hi : i < n) (hj : j < m) : p i j = true := by
  unfold all2 at h
  simp only [List.all_eq_true, List.mem_range] at h
  exact h i hi j hj
theorem b_rng : bAll (fun K R C => Nat.ble (bN K R C) 36 && Nat.ble 3 (bN K R C) && Nat.beq (bS K C R) (bN K R C) && Nat.beq (bS K C 0) 0 && all2 R 1 (fun r _ => Nat.beq (bS K C (r + 1)) (bS K C r + bW K C r) && Nat.ble (bS K C (r + 1)) 36)) = true := by decide +kernel
theorem b_rc : bAll (fun K R C => all2 R 6 (fun r c => !Nat.blt c (bW K C r) || (Nat.beq (bRo K C (bS K C r + c)) r && Nat.beq (bCo K C (bS K C r + c)) c))) = true := by decide +kernel
theorem b_rc2 : bAll (fun K R C => all2 (bN K R C) 1 (fun c _ => Nat.blt (bRo K C c) R && Nat.blt (bCo K C c) 6)) = true := by decide +kernel
theorem b_nx : bAll (fun K R C => all2 (bN K R C) 6 (fun c d => decide (bNx K R C c d = iN) || (decide (i32 (bNx K R C c d).toInt.toNat = bNx K R C c d) && Nat.blt (bNx K R C c d).toInt.toNat (bN K R C)))) = true := by decide +kernel
theorem b_sym : bAll (fun K R C => all2 (bN K R C) (bN K R C) (fun c d => bBe K R C c d == bBe K R C d c)) = true := by decide +kernel
theorem b_irr : bAll (fun K R C => all2 (bN K R C) 1 (fun c _ => !bBe K R C c c)) = true := by decide +kernel
theorem b_dist : bAll (fun K R C => all2 (bN K R C) 6 (fun c d => (List.range d).all fun d' => decide (bNx K R C c d = iN) || !decide (bNx K R C c d = bNx K R C c d'))) = true := by decide +kernel

