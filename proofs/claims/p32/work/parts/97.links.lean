/-! links: who can have the ends joined, when both fill a set in turn -/
def Lk (T : Nat → Prop) (n : Nat) : Nat → Bool → Nat → Nat → Prop
  | 0, _, m, _ => T m
  | f + 1, true, m, r => ∀ k, k < n → r.testBit k = true → Lk T n f false m (ndf r (2 ^ k))
  | f + 1, false, m, r => ∃ k, k < n ∧ r.testBit k = true ∧ Lk T n f true (m ||| 2 ^ k) (ndf r (2 ^ k))
def pop (n r : Nat) : Nat := cf r.testBit n
def LH (T : Nat → Prop) (n m r : Nat) : Prop := Lk T n (pop n r) true m r
def LG (T : Nat → Prop) (n m r : Nat) : Prop := Lk T n (pop n r) false m r
theorem tb_rm (r k i : Nat) : (ndf r (2 ^ k)).testBit i = (r.testBit i && !decide (k = i)) := by rw [tb_ndf, Nat.testBit_two_pow]
theorem tb_ad (r k i : Nat) : (r ||| 2 ^ k).testBit i = (r.testBit i || decide (k = i)) := by rw [Nat.testBit_or, Nat.testBit_two_pow]
theorem pop_rm {n r k : Nat} (hk : k < n) (h : r.testBit k = true) : pop n r = pop n (ndf r (2 ^ k)) + 1 := by
  refine cf_add hk ?_ h (fun c hc => ?_)
  · show (ndf r (2 ^ k)).testBit k = false
    rw [tb_rm, decide_eq_true rfl]; simp
  · show (ndf r (2 ^ k)).testBit c = r.testBit c
    rw [tb_rm, decide_eq_false (fun z => hc z.symm)]; simp
theorem pop_ad {n r k : Nat} (hk : k < n) (h : r.testBit k = false) : pop n (r ||| 2 ^ k) = pop n r + 1 := by
  refine cf_add hk h ?_ (fun c hc => ?_)
  · show (r ||| 2 ^ k).testBit k = true
    rw [tb_ad, decide_eq_true rfl, Bool.or_true]
  · show r.testBit c = (r ||| 2 ^ k).testBit c
    rw [tb_ad, decide_eq_false (fun z => hc z.symm), Bool.or_false]
theorem pop_0 {n r : Nat} (h : pop n r = 0) {k : Nat} (hk : k < n) : r.testBit k = false := bool_f (fun z => by
  have := cf_one (p := r.testBit) hk z
  have e : pop n r = cf r.testBit n := rfl
  omega)
theorem pop_ex {n r f : Nat} (h : pop n r = f + 1) : ∃ k, k < n ∧ r.testBit k = true := by
  obtain ⟨c, h1, h2, _⟩ := cf_hit (p := r.testBit) n 0 (by
    have e : pop n r = cf r.testBit n := rfl
    omega)
  exact ⟨c, h1, h2⟩
theorem rm_ad {r k x : Nat} (h : k ≠ x) : ndf (r ||| 2 ^ x) (2 ^ k) = ndf r (2 ^ k) ||| 2 ^ x := by
  refine Nat.eq_of_testBit_eq (fun i => ?_)
  rw [tb_rm, tb_ad, tb_ad, tb_rm]
  by_cases q : k = i
  · subst q; rw [decide_eq_true rfl, decide_eq_false (fun z => h z.symm)]; simp
  · rw [decide_eq_false q]; simp
theorem rm_ad_same {r x : Nat} (h : r.testBit x = false) : ndf (r ||| 2 ^ x) (2 ^ x) = r := by
  refine Nat.eq_of_testBit_eq (fun i => ?_)
  rw [tb_rm, tb_ad]
  by_cases q : x = i
  · subst q; rw [h, decide_eq_true rfl]; rfl
  · rw [decide_eq_false q]; simp
theorem ad_rm_same {r x : Nat} (h : r.testBit x = true) : ndf r (2 ^ x) ||| 2 ^ x = r := by
  refine Nat.eq_of_testBit_eq (fun i => ?_)
  rw [tb_ad, tb_rm]
  by_cases q : x = i
  · subst q; rw [h, decide_eq_true rfl]; rfl
  · rw [decide_eq_false q]; simp
section
variable {T : Nat → Prop} {n : Nat}
theorem LH_0 {m r : Nat} (h : pop n r = 0) : LH T n m r ↔ T m := by
  unfold LH; rw [h]; exact Iff.rfl
theorem LG_0 {m r : Nat} (h : pop n r = 0) : LG T n m r ↔ T m := by
  unfold LG; rw [h]; exact Iff.rfl
theorem LH_s {m r f : Nat} (h : pop n r = f + 1) : LH T n m r ↔ ∀ k, k < n → r.testBit k = true → LG T n m (ndf r (2 ^ k)) := by
  unfold LH
  rw [h]
  show (∀ k, k < n → r.testBit k = true → Lk T n f false m (ndf r (2 ^ k))) ↔ _
  constructor
  · intro q k h1 h2
    have p := pop_rm h1 h2
    unfold LG
    rw [show pop n (ndf r (2 ^ k)) = f by omega]
    exact q k h1 h2
  · intro q k h1 h2
    have p := pop_rm h1 h2
    have := q k h1 h2
    unfold LG at this
    rw [show pop n (ndf r (2 ^ k)) = f by omega] at this
    exact this
theorem LG_s {m r f : Nat} (h : pop n r = f + 1) : LG T n m r ↔ ∃ k, k < n ∧ r.testBit k = true ∧ LH T n (m ||| 2 ^ k) (ndf r (2 ^ k)) := by
  unfold LG
  rw [h]
  show (∃ k, k < n ∧ r.testBit k = true ∧ Lk T n f true (m ||| 2 ^ k) (ndf r (2 ^ k))) ↔ _
  constructor
  · rintro ⟨k, h1, h2, h3⟩
    have p := pop_rm h1 h2
    refine ⟨k, h1, h2, ?_⟩
    unfold LH
    rw [show pop n (ndf r (2 ^ k)) = f by omega]
    exact h3
  · rintro ⟨k, h1, h2, h3⟩
    have p := pop_rm h1 h2
    refine ⟨k, h1, h2, ?_⟩
    unfold LH at h3
    rw [show pop n (ndf r (2 ^ k)) = f by omega] at h3
    exact h3
/-- who has joined stays so -/
theorem L_tie (hT : ∀ m k, T m → T (m ||| 2 ^ k)) : ∀ f m r, pop n r = f → T m → LH T n m r ∧ LG T n m r := by
  intro f
  induction f with
  | zero => intro m r h t; exact ⟨(LH_0 h).2 t, (LG_0 h).2 t⟩
  | succ f ih =>
    intro m r h t
    refine ⟨(LH_s h).2 (fun k h1 h2 => (ih _ _ (by have := pop_rm h1 h2; omega) t).2), (LG_s h).2 ?_⟩
    obtain ⟨k, h1, h2⟩ := pop_ex h
    exact ⟨k, h1, h2, (ih _ _ (by have := pop_rm h1 h2; omega) (hT m k t)).1⟩
theorem or_rm {m r k : Nat} (h : r.testBit k = true) : m ||| ndf r (2 ^ k) ||| 2 ^ k = m ||| r := by
  rw [Nat.or_assoc, ad_rm_same h]
theorem or_rm2 {m r k : Nat} (h : r.testBit k = true) : m ||| 2 ^ k ||| ndf r (2 ^ k) = m ||| r := by
  rw [Nat.or_assoc, Nat.or_comm (2 ^ k), ad_rm_same h]
/-- who can't join with all of it can't at all -/
theorem L_all (hT : ∀ m k, T m → T (m ||| 2 ^ k)) (hB : ∀ m r, (∀ k, k < n → r.testBit k = false) → T m → T (m ||| r)) : ∀ f m r, pop n r = f → (LH T n m r ∨ LG T n m r) → T (m ||| r) := by
  intro f
  induction f with
  | zero =>
    intro m r h q
    have t : T m := q.elim (fun z => (LH_0 h).1 z) (fun z => (LG_0 h).1 z)
    exact hB m r (fun k hk => pop_0 h hk) t
  | succ f ih =>
    intro m r h q
    rcases q with q | q
    · obtain ⟨k, h1, h2⟩ := pop_ex h
      have := ih m _ (by have := pop_rm h1 h2; omega) (Or.inr ((LH_s h).1 q k h1 h2))
      rw [← or_rm h2]; exact hT _ k this
    · obtain ⟨k, h1, h2, h3⟩ := (LG_s h).1 q
      have := ih _ _ (by have := pop_rm h1 h2; omega) (Or.inl h3)
      rw [or_rm2 h2] at this; exact this
/-- a cell more never hurts -/
theorem L_more (hT : ∀ m k, T m → T (m ||| 2 ^ k)) : ∀ f m r x, pop n r = f → x < n → r.testBit x = false → (LH T n m r → LH T n m (r ||| 2 ^ x)) ∧ (LG T n m r → LG T n m (r ||| 2 ^ x)) ∧ (LH T n m r → LG T n m r) := by
  intro f
  induction f using Nat.strongRecOn with
  | ind f IH =>
    intro m r x hf hx hr
    have pa := pop_ad hx hr
    have g : LH T n m r → LG T n m r := by
      intro q
      cases f with
      | zero => exact (LG_0 hf).2 ((LH_0 hf).1 q)
      | succ f =>
        obtain ⟨k0, a1, a2⟩ := pop_ex hf
        have p0 := pop_rm a1 a2
        have q1 := (LH_s hf).1 q k0 a1 a2
        cases f with
        | zero => exact (L_tie hT _ m r rfl ((LG_0 (by omega)).1 q1)).2
        | succ f =>
          obtain ⟨k1, b1, b2, b3⟩ := (LG_s (f := f) (by omega)).1 q1
          have p1 := pop_rm b1 b2
          have b2' := b2
          rw [tb_rm, Bool.and_eq_true, Bool.not_eq_true', decide_eq_false_iff_not] at b2
          refine (LG_s hf).2 ⟨k1, b1, b2.1, ?_⟩
          have o := (IH f (by omega) (m ||| 2 ^ k1) (ndf (ndf r (2 ^ k0)) (2 ^ k1)) k0 (by omega) a1 (by
            rw [tb_rm, tb_rm, decide_eq_true rfl]; simp)).1 b3
          have e : ndf (ndf r (2 ^ k0)) (2 ^ k1) ||| 2 ^ k0 = ndf r (2 ^ k1) := by
            rw [← rm_ad (fun z => b2.2 z.symm), ad_rm_same a2]
          rw [e] at o
          exact o
    refine ⟨fun q => ?_, fun q => ?_, g⟩
    · refine (LH_s (f := f) (by omega)).2 (fun k k1 k2 => ?_)
      by_cases e : k = x
      · subst e
        rw [rm_ad_same hr]; exact g q
      · rw [tb_ad, decide_eq_false (fun z => e z.symm), Bool.or_false] at k2
        rw [rm_ad e]
        have p := pop_rm k1 k2
        obtain ⟨f', rfl⟩ : ∃ f', f = f' + 1 := ⟨f - 1, by omega⟩
        exact (IH f' (by omega) m _ x (by omega) hx (by rw [tb_rm, hr]; rfl)).2.1 ((LH_s hf).1 q k k1 k2)
    · cases f with
      | zero => exact (L_tie hT _ m _ rfl ((LG_0 hf).1 q)).2
      | succ f =>
        obtain ⟨k, k1, k2, k3⟩ := (LG_s hf).1 q
        have p := pop_rm k1 k2
        have e : k ≠ x := fun z => by subst z; rw [hr] at k2; cases k2
        refine (LG_s (f := f + 1) (by omega)).2 ⟨k, k1, by rw [tb_ad, k2]; rfl, ?_⟩
        rw [rm_ad e]
        exact (IH f (by omega) _ _ x (by omega) hx (by rw [tb_rm, hr]; rfl)).1 k3
theorem L_full (hT : ∀ m k, T m → T (m ||| 2 ^ k)) {m r : Nat} (hr : r < 2 ^ n) (h : LH T n m r) : LH T n m (2 ^ n - 1) := by
  have step : ∀ j, j ≤ n → LH T n m (r ||| (2 ^ j - 1)) := by
    intro j
    induction j with
    | zero => intro _; rw [show 2 ^ 0 - 1 = 0 from rfl, Nat.or_zero]; exact h
    | succ j ih =>
      intro hj
      have i := ih (by omega)
      have e : r ||| (2 ^ (j + 1) - 1) = (r ||| (2 ^ j - 1)) ||| 2 ^ j := by
        refine Nat.eq_of_testBit_eq (fun i => ?_)
        rw [tb_ad, Nat.testBit_or, Nat.testBit_or, Nat.testBit_two_pow_sub_one, Nat.testBit_two_pow_sub_one]
        by_cases q : i < j
        · rw [decide_eq_true q, decide_eq_true (show i < j + 1 by omega)]; simp
        · by_cases q2 : j = i
          · subst q2; rw [decide_eq_true (show j < j + 1 by omega), decide_eq_true rfl]; simp
          · rw [decide_eq_false (show ¬ i < j + 1 by omega), decide_eq_false q, decide_eq_false q2, Bool.or_false, Bool.or_false]
      rw [e]
      cases hb : (r ||| (2 ^ j - 1)).testBit j with
      | true =>
        have : (r ||| (2 ^ j - 1)) ||| 2 ^ j = r ||| (2 ^ j - 1) := by
          refine Nat.eq_of_testBit_eq (fun i => ?_)
          rw [tb_ad]
          by_cases q2 : j = i
          · subst q2; rw [hb]; rfl
          · rw [decide_eq_false q2, Bool.or_false]
        rw [this]; exact i
      | false => exact (L_more hT _ m _ j rfl (by omega) hb).1 i
  have s := step n (Nat.le_refl _)
  have e : r ||| (2 ^ n - 1) = 2 ^ n - 1 := by
    refine Nat.eq_of_testBit_eq (fun i => ?_)
    rw [Nat.testBit_or, Nat.testBit_two_pow_sub_one]
    by_cases q : i < n
    · rw [decide_eq_true q, Bool.or_true]
    · rw [decide_eq_false q, Bool.or_false]
      exact Nat.testBit_lt_two_pow (Nat.lt_of_lt_of_le hr (Nat.pow_le_pow_right (by decide) (by omega)))
  rw [e] at s
  exact s
/-- the class's way to find it -/
theorem LH_class (hT : ∀ m k, T m → T (m ||| 2 ^ k)) {m r : Nat} (h0 : ¬ T m) : LH T n m r ↔ (0 < pop n r ∧ ∀ k, k < n → r.testBit k = true → ∃ j, j < n ∧ (ndf r (2 ^ k)).testBit j = true ∧ LH T n (m ||| 2 ^ j) (ndf (ndf r (2 ^ k)) (2 ^ j))) := by
  have gq : ∀ r', LG T n m r' ↔ ∃ j, j < n ∧ r'.testBit j = true ∧ LH T n (m ||| 2 ^ j) (ndf r' (2 ^ j)) := by
    intro r'
    cases hp : pop n r' with
    | zero =>
      rw [LG_0 hp]
      exact ⟨fun t => absurd t h0, fun ⟨j, j1, j2, _⟩ => by rw [pop_0 hp j1] at j2; cases j2⟩
    | succ f => exact LG_s hp
  cases hp : pop n r with
  | zero =>
    rw [LH_0 hp]
    exact ⟨fun t => absurd t h0, fun z => absurd z.1 (Nat.lt_irrefl _)⟩
  | succ f =>
    rw [LH_s hp]
    constructor
    · intro q; exact ⟨by omega, fun k k1 k2 => (gq _).1 (q k k1 k2)⟩
    · intro q k k1 k2; exact (gq _).2 (q.2 k k1 k2)
end
/-- the carrier, as a set of gaps -/
def MinC (T : Nat → Prop) (n c : Nat) : Prop := c < 2 ^ n ∧ LH T n 0 c ∧ ∀ s, s < 2 ^ n → LH T n 0 s → (pop n c < pop n s ∨ (pop n c = pop n s ∧ c ≤ s))
theorem MinC_u {T : Nat → Prop} {n c d : Nat} (h : MinC T n c) (g : MinC T n d) : c = d := by
  have a := h.2.2 d g.1 g.2.1
  have b := g.2.2 c h.1 h.2.1
  omega

