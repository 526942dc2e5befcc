/-! the reference's board -/
abbrev MB (K R C : Nat) (I : Nat → Nat → Int32) (A : Nat → Nat → Int32) (B : Nat → Nat → Int64) : Prop := (bV K R C = true) ∧ (I 39 0 = i32 K) ∧ (I 39 1 = i32 R) ∧ (I 39 2 = i32 C) ∧ (I 39 3 = i32 (bN K R C)) ∧ (∀ c, c < bN K R C → A 40 c = i32 (bRo K C c) ∧ A 41 c = i32 (bCo K C c)) ∧ (∀ c d, c < bN K R C → d < 6 → A 42 (6 * c + d) = bNx K R C c d) ∧ (∀ c, c < bN K R C → B 43 c = bNb K R C c) ∧ (∀ s, s < 4 → B 44 s = bSs K R C s)
def inB (x lo hi : Int32) : Bool := !decide (x < lo) && !decide (hi < x)
def atM (R K C x1 x2 : Int32) : Int32 :=
  if ¬ inB x1 (i32 0) (R - i32 1) = true then iN
  else if K = i32 1 then (if ¬ inB x2 (i32 0) x1 = true then iN else x1 * (x1 + i32 1) / i32 2 + x2)
  else if K = i32 2 then (if ¬ inB ((x2 + C) - (x2 + C) / C * C) (i32 0) (C - i32 1) = true then iN else x1 * C + ((x2 + C) - (x2 + C) / C * C))
  else (if ¬ inB x2 (i32 0) (C - i32 1) = true then iN else x1 * C + x2)
def nxM (K R C c d : Nat) : Int32 :=
  match d with
  | 0 => atM (i32 R) (i32 K) (i32 C) (i32 (bRo K C c)) (i32 (bCo K C c) + i32 1)
  | 1 => atM (i32 R) (i32 K) (i32 C) (i32 (bRo K C c) + i32 1) (if K = 1 then i32 (bCo K C c) + i32 1 else i32 (bCo K C c))
  | 2 => atM (i32 R) (i32 K) (i32 C) (i32 (bRo K C c) + i32 1) (if K = 1 then i32 (bCo K C c) else i32 (bCo K C c) - i32 1)
  | 3 => atM (i32 R) (i32 K) (i32 C) (i32 (bRo K C c)) (i32 (bCo K C c) - i32 1)
  | 4 => atM (i32 R) (i32 K) (i32 C) (i32 (bRo K C c) - i32 1) (if K = 1 then i32 (bCo K C c) - i32 1 else i32 (bCo K C c))
  | _ => atM (i32 R) (i32 K) (i32 C) (i32 (bRo K C c) - i32 1) (if K = 1 then i32 (bCo K C c) else i32 (bCo K C c) + i32 1)
theorem b_nm : bAll (fun K R C => all2 (bN K R C) 6 (fun c d => decide (nxM K R C c d = bNx K R C c d))) = true := by decide +kernel
theorem b_nms {K R C c d : Nat} (v : bV K R C = true) (h : c < bN K R C) (hd : d < 6) : nxM K R C c d = bNx K R C c d :=
  of_decide_eq_true (all2_of (bAll_of b_nm v) h hd)
theorem nsw : ∀ d : Fin 6, (if (i32 d.1).toInt < 0 ∨ 4 < (i32 d.1).toInt then 130 else ([52, 61, 81, 101, 110] : List Nat).getD ((i32 d.1).toInt - 0).toNat 130) = ([52, 61, 81, 101, 110, 130] : List Nat).getD d.1 130 := by decide
section
variable (k : Nat) (r : Nat → Nat → Value) (e : Nat) (I : Nat → Nat → Int32) (J : Nat → Nat → Int64) (A : Nat → Nat → Int32) (B : Nat → Nat → Int64)
end
