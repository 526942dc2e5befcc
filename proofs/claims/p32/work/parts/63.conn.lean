/-! sets made of what is true of their cells; what hangs together -/
def ms (p : Nat → Bool) : Nat → Int64
  | 0 => 0
  | k + 1 => ms p k ||| (if p k then mbit k else 0)
theorem mb_ms (p : Nat → Bool) (c : Nat) : ∀ k, k ≤ 64 → mb (ms p k) c = (decide (c < k) && p c) := by
  intro k
  induction k with
  | zero => intro _; exact mb_zero c
  | succ k ih =>
    intro h
    unfold ms
    rw [mb_or, ih (by omega)]
    by_cases q : p k = true
    · rw [if_pos q, mb_bit k c (by omega)]
      by_cases h1 : c = k
      · subst h1; rw [q]; simp
      · by_cases h2 : c < k
        · simp [h2, show c < k + 1 by omega, show ¬ k = c by omega]
        · simp [h2, show ¬ c < k + 1 by omega, show ¬ k = c by omega]
    · have q' : p k = false := by cases hh : p k with
        | true => exact absurd hh q
        | false => rfl
      rw [if_neg q, mb_zero]
      by_cases h1 : c = k
      · subst h1; rw [q']; simp
      · by_cases h2 : c < k
        · simp [h2, show c < k + 1 by omega]
        · simp [h2, show ¬ c < k + 1 by omega]
/-- how many below n -/
def cf (p : Nat → Bool) : Nat → Nat
  | 0 => 0
  | k + 1 => cf p k + (p k).toNat
theorem cf_le (p : Nat → Bool) (n : Nat) : cf p n ≤ n := by
  induction n with
  | zero => exact Nat.le_refl _
  | succ n ih => unfold cf; have := Bool.toNat_le (p n); omega
theorem cf_lt {p : Nat → Bool} {n k : Nat} (hk : k < n) (h : p k = false) : cf p n < n := by
  induction n with
  | zero => omega
  | succ n ih =>
    unfold cf
    by_cases q : k = n
    · subst q; rw [h]; have := cf_le p k; show _ + 0 < _; omega
    · have := ih (by omega); have := Bool.toNat_le (p n); omega
theorem cf_congr {p q : Nat → Bool} {n : Nat} (h : ∀ c, c < n → p c = q c) : cf p n = cf q n := by
  induction n with
  | zero => rfl
  | succ n ih => unfold cf; rw [ih (fun c hc => h c (by omega)), h n (by omega)]
theorem cf_add {p q : Nat → Bool} {n k : Nat} (hk : k < n) (h0 : p k = false) (h1 : q k = true) (h : ∀ c, c ≠ k → p c = q c) : cf q n = cf p n + 1 := by
  induction n with
  | zero => omega
  | succ n ih =>
    unfold cf
    by_cases e : k = n
    · subst e; rw [h0, h1, cf_congr (p := p) (q := q) (fun c hc => h c (by omega))]; rfl
    · rw [ih (by omega), h n (by omega)]; omega
def Conn (n : Nat) (nb : Nat → Int64) (a w : Int64) (c : Nat) : Prop := ∀ P : Nat → Prop, (∀ c, c < n → mb a c = true → mb w c = true → P c) → (∀ c d, d < n → P c → mb (nb c) d = true → mb w d = true → P d) → P c
theorem Conn.base {n : Nat} {nb : Nat → Int64} {a w : Int64} {c : Nat} (hn : c < n) (ha : mb a c = true) (hw : mb w c = true) : Conn n nb a w c := fun _ h1 _ => h1 c hn ha hw
theorem Conn.step {n : Nat} {nb : Nat → Int64} {a w : Int64} {c d : Nat} (hn : d < n) (hc : Conn n nb a w c) (hb : mb (nb c) d = true) (hw : mb w d = true) : Conn n nb a w d := fun P h1 h2 => h2 c d hn (hc P h1 h2) hb hw
theorem Conn.ind {n : Nat} {nb : Nat → Int64} {a w : Int64} {c : Nat} {P : Nat → Prop} (h : Conn n nb a w c) (h1 : ∀ c, c < n → mb a c = true → mb w c = true → P c) (h2 : ∀ c d, d < n → Conn n nb a w c → P c → mb (nb c) d = true → mb w d = true → P d) : P c :=
  (h (fun c => Conn n nb a w c ∧ P c) (fun c q1 q2 q3 => ⟨.base q1 q2 q3, h1 c q1 q2 q3⟩) (fun c d q1 q2 q3 q4 => ⟨.step q1 q2.1 q3 q4, h2 c d q1 q2.1 q2.2 q3 q4⟩)).2
theorem Conn.lt {n : Nat} {nb : Nat → Int64} {a w : Int64} {c : Nat} (h : Conn n nb a w c) : c < n := h (fun c => c < n) (fun _ q _ _ => q) (fun _ _ q _ _ _ => q)
theorem Conn.w {n : Nat} {nb : Nat → Int64} {a w : Int64} {c : Nat} (h : Conn n nb a w c) : mb w c = true := h (fun c => mb w c = true) (fun _ _ _ q => q) (fun _ _ _ _ _ q => q)
noncomputable def pdec (p : Prop) : Bool := @decide p (Classical.propDecidable p)
theorem pdec_t {p : Prop} : pdec p = true ↔ p := by unfold pdec; exact @decide_eq_true_iff p (Classical.propDecidable p)
noncomputable def rch (n : Nat) (nb : Nat → Int64) (a w : Int64) : Int64 := ms (fun c => pdec (Conn n nb a w c)) n
theorem mb_rch {n : Nat} (hn : n ≤ 64) (nb : Nat → Int64) (a w : Int64) (c : Nat) : mb (rch n nb a w) c = true ↔ Conn n nb a w c := by
  unfold rch
  rw [mb_ms _ _ _ hn]
  rw [Bool.and_eq_true, pdec_t, decide_eq_true_eq]
  exact ⟨fun h => h.2, fun h => ⟨h.lt, h⟩⟩
theorem rch_eq {n : Nat} (hn : n ≤ 64) {nb : Nat → Int64} {a w x : Int64} (h : ∀ c, mb x c = true ↔ Conn n nb a w c) : x = rch n nb a w := by
  apply mb_ext
  intro c _
  have h1 := h c
  have h2 := mb_rch hn nb a w c
  cases e1 : mb x c <;> cases e2 : mb (rch n nb a w) c
  · rfl
  · rw [e1] at h1; exact absurd (h1.2 (h2.1 e2)) (by decide)
  · rw [e2] at h2; exact absurd (h2.2 (h1.1 e1)) (by decide)
  · rfl
theorem Conn.congr {n : Nat} {nb nb' : Nat → Int64} {a w : Int64} (h : ∀ c, c < n → nb c = nb' c) {c : Nat} (q : Conn n nb a w c) : Conn n nb' a w c := by
  exact q.ind (fun _ hn ha hw => .base hn ha hw) (fun _ _ hn hc ih hb hw => .step hn ih (h _ hc.lt ▸ hb) hw)
theorem rch_congr {n : Nat} (hn : n ≤ 64) {nb nb' : Nat → Int64} {a w : Int64} (h : ∀ c, c < n → nb c = nb' c) : rch n nb a w = rch n nb' a w :=
  rch_eq hn (fun c => (mb_rch hn nb a w c).trans ⟨Conn.congr h, Conn.congr (fun c hc => (h c hc).symm)⟩)
theorem bool_f {b : Bool} (h : ¬ b = true) : b = false := by cases b with
  | true => exact absurd rfl h
  | false => rfl
abbrev ReachI (n : Nat) (nb : Nat → Int64) (a w : Int64) (seen edge : Int64) : Prop := (∀ c, mb seen c = true → Conn n nb a w c) ∧ (∀ c, mb edge c = true → mb seen c = true) ∧ (∀ c, c < n → mb a c = true → mb w c = true → mb seen c = true) ∧ (∀ c d, mb seen c = true → mb edge c = false → d < n → mb (nb c) d = true → mb w d = true → mb seen d = true)
theorem ReachI.s1 {n : Nat} {nb : Nat → Int64} {a w : Int64} {seen edge : Int64} (h : ReachI n nb a w seen edge) : ∀ c, mb seen c = true → Conn n nb a w c := h.1
theorem ReachI.s2 {n : Nat} {nb : Nat → Int64} {a w : Int64} {seen edge : Int64} (h : ReachI n nb a w seen edge) : ∀ c, mb edge c = true → mb seen c = true := h.2.1
theorem ReachI.s3 {n : Nat} {nb : Nat → Int64} {a w : Int64} {seen edge : Int64} (h : ReachI n nb a w seen edge) : ∀ c, c < n → mb a c = true → mb w c = true → mb seen c = true := h.2.2.1
theorem ReachI.s4 {n : Nat} {nb : Nat → Int64} {a w : Int64} {seen edge : Int64} (h : ReachI n nb a w seen edge) : ∀ c d, mb seen c = true → mb edge c = false → d < n → mb (nb c) d = true → mb w d = true → mb seen d = true := h.2.2.2
theorem ReachI.fin {n : Nat} {nb : Nat → Int64} {a w seen edge : Int64} (hn : n ≤ 64) (h : ReachI n nb a w seen edge) (h0 : edge = 0) : seen = rch n nb a w := by
  apply rch_eq hn
  intro c
  constructor
  · exact h.s1 c
  · intro q
    exact q.ind (fun _ hn ha hw => h.s3 _ hn ha hw) (fun _ _ hn hc ih hb hw => h.s4 _ _ ih (by rw [h0]; exact mb_zero _) hn hb hw)
def dn (seen edge : Int64) (c : Nat) : Bool := mb seen c && !mb edge c
theorem ReachI.full {n : Nat} {nb : Nat → Int64} {a w seen edge : Int64} (h : ReachI n nb a w seen edge) (hc : n ≤ cf (dn seen edge) n) : edge = 0 := by
  apply mb_ext
  intro c _
  rw [mb_zero]
  apply bool_f
  intro q
  have l := (h.s1 c (h.s2 c q)).lt
  have : cf (dn seen edge) n < n := cf_lt l (by unfold dn; rw [q]; simp)
  omega
theorem ReachI.step {n : Nat} {nb : Nat → Int64} {a w seen edge : Int64} (hn : n ≤ 64) (hnb : ∀ c d, c < n → mb (nb c) d = true → d < n) (h : ReachI n nb a w seen edge) (h0 : edge ≠ 0) {fresh : Int64} (hf : ∀ c, mb fresh c = true ↔ (mb (nb (mlo edge)) c = true ∧ mb w c = true ∧ mb seen c = false)) :
    ReachI n nb a w (seen ||| fresh) ((edge &&& (edge - 1)) ||| fresh) ∧ cf (dn (seen ||| fresh) ((edge &&& (edge - 1)) ||| fresh)) n = cf (dn seen edge) n + 1 := by
  have hk := mlo_mb h0
  have hs := h.s2 _ hk
  have hC := h.s1 _ hs
  have em : ∀ c, mb ((edge &&& (edge - 1)) ||| fresh) c = true ↔ ((mb edge c = true ∧ c ≠ mlo edge) ∨ mb fresh c = true) := by
    intro c
    rw [mb_or, mlo_clr h0]
    simp
  have sm : ∀ c, mb (seen ||| fresh) c = true ↔ (mb seen c = true ∨ mb fresh c = true) := by
    intro c
    rw [mb_or]; simp
  refine ⟨⟨?_, ?_, ?_, ?_⟩, ?_⟩
  · intro c hc
    rcases (sm c).1 hc with q | q
    · exact h.s1 c q
    · have q2 := (hf c).1 q
      exact .step (hnb _ _ hC.lt q2.1) hC q2.1 q2.2.1
  · intro c hc
    rcases (em c).1 hc with q | q
    · exact (sm c).2 (Or.inl (h.s2 c q.1))
    · exact (sm c).2 (Or.inr q)
  · intro c h1 h2 h3
    exact (sm c).2 (Or.inl (h.s3 c h1 h2 h3))
  · intro c d h1 h2 h3 h4 h5
    have n1 : ¬ mb fresh c = true := fun q => by rw [(em c).2 (Or.inr q)] at h2; cases h2
    have s1 : mb seen c = true := ((sm c).1 h1).resolve_right n1
    by_cases q : c = mlo edge
    · subst q
      by_cases r : mb seen d = true
      · exact (sm d).2 (Or.inl r)
      · exact (sm d).2 (Or.inr ((hf d).2 ⟨h4, h5, bool_f r⟩))
    · have n2 : mb edge c = false := bool_f (fun q2 => by rw [(em c).2 (Or.inl ⟨q2, q⟩)] at h2; cases h2)
      exact (sm d).2 (Or.inl (h.s4 c d s1 n2 h3 h4 h5))
  · apply cf_add hC.lt
    · unfold dn; rw [hk]; simp
    · unfold dn
      have n1 : mb fresh (mlo edge) = false := bool_f (fun q => by have := ((hf _).1 q).2.2; rw [hs] at this; cases this)
      rw [mb_or, hs, mb_or, mlo_clr h0, n1]
      simp
    · intro c hc
      unfold dn
      rw [mb_or, mb_or, mlo_clr h0]
      by_cases q : mb fresh c = true
      · have := ((hf _).1 q).2.2
        rw [q, this]; simp
      · rw [bool_f q]; simp [hc]

