/-! leaves of the reference; what it spreads to -/
theorem cf_ncnt (n : Nat) : ∀ k, ncnt n k = cf (fun c => n.testBit c) k := by
  intro k
  induction k with
  | zero => rfl
  | succ k ih => unfold ncnt cf; rw [ih]
theorem mcnt_cf (x : Int64) : mcnt x = cf (mb x) 64 := by
  unfold mcnt
  rw [cf_ncnt]
  exact cf_congr (fun c _ => (mb_nat x c).symm)
theorem cf_stop {p : Nat → Bool} {n m : Nat} (h : ∀ c, n ≤ c → p c = false) (hm : n ≤ m) : cf p m = cf p n := by
  induction m with
  | zero => have : n = 0 := by omega
            subst this; rfl
  | succ m ih =>
    by_cases q : n = m + 1
    · subst q; rfl
    · show cf p m + (p m).toNat = _
      rw [ih (by omega), h m (by omega)]; rfl
theorem cf_lt2 {p q : Nat → Bool} {n k : Nat} (hk : k < n) (h0 : p k = false) (h1 : q k = true) (h : ∀ c, p c = true → q c = true) : cf p n < cf q n := by
  have mono : ∀ m, cf p m ≤ cf q m := by
    intro m
    induction m with
    | zero => exact Nat.le_refl _
    | succ m ih =>
      unfold cf
      have : (p m).toNat ≤ (q m).toNat := by
        cases e : p m with
        | false => exact Nat.zero_le _
        | true => rw [h m e]; exact Nat.le_refl _
      omega
  induction n with
  | zero => omega
  | succ n ih =>
    unfold cf
    by_cases e : k = n
    · subst e; rw [h0, h1]; have := mono k; show _ + 0 < _ + 1; omega
    · have := ih (by omega)
      have : (p n).toNat ≤ (q n).toNat := by
        cases e : p n with
        | false => exact Nat.zero_le _
        | true => rw [h n e]; exact Nat.le_refl _
      omega
abbrev MD (n : Nat) (I : Nat → Nat → Int32) (B : Nat → Nat → Int64) : Prop := (n ≤ 36) ∧ (I 39 3 = i32 n) ∧ (∀ c d, c < n → mb (B 43 c) d = true → d < n)
theorem MD.le {n : Nat} {I : Nat → Nat → Int32} {B : Nat → Nat → Int64} (h : MD n I B) : n ≤ 36 := h.1
theorem MD.cells {n : Nat} {I : Nat → Nat → Int32} {B : Nat → Nat → Int64} (h : MD n I B) : I 39 3 = i32 n := h.2.1
theorem MD.nb {n : Nat} {I : Nat → Nat → Int32} {B : Nat → Nat → Int64} (h : MD n I B) : ∀ c d, c < n → mb (B 43 c) d = true → d < n := h.2.2
