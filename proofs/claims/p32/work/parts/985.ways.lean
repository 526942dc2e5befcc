/-! how far it is: ways, by the empty cells on them -/
def wt (own : Int64) (c : Nat) : Nat := if mb own c = true then 0 else 1
def psw (own fr : Int64) (c : Nat) : Prop := mb own c = true ∨ mb fr c = true
def RP (N : Nat) (nb : Nat → Int64) (a own fr : Int64) (k c : Nat) : Prop := ∀ Q : Nat → Nat → Prop, (∀ c, c < N → mb a c = true → psw own fr c → Q (wt own c) c) → (∀ n c d, d < N → Q n c → mb (nb c) d = true → psw own fr d → Q (n + wt own d) d) → Q k c
section
variable {N : Nat} {nb : Nat → Int64} {a own fr : Int64}
theorem RP.base {c : Nat} (h1 : c < N) (h2 : mb a c = true) (h3 : psw own fr c) : RP N nb a own fr (wt own c) c := fun _ q _ => q c h1 h2 h3
theorem RP.step {n c d : Nat} (h : RP N nb a own fr n c) (h1 : d < N) (h2 : mb (nb c) d = true) (h3 : psw own fr d) : RP N nb a own fr (n + wt own d) d := fun Q q1 q2 => q2 n c d h1 (h Q q1 q2) h2 h3
theorem RP.ind {k c : Nat} {Q : Nat → Nat → Prop} (h : RP N nb a own fr k c) (h1 : ∀ c, c < N → mb a c = true → psw own fr c → Q (wt own c) c) (h2 : ∀ n c d, d < N → RP N nb a own fr n c → Q n c → mb (nb c) d = true → psw own fr d → Q (n + wt own d) d) : Q k c :=
  (h (fun n c => RP N nb a own fr n c ∧ Q n c) (fun c q1 q2 q3 => ⟨RP.base q1 q2 q3, h1 c q1 q2 q3⟩) (fun n c d q1 p q2 q3 => ⟨p.1.step q1 q2 q3, h2 n c d q1 p.1 p.2 q2 q3⟩)).2
theorem RP.lt {k c : Nat} (h : RP N nb a own fr k c) : c < N := h.ind (Q := fun _ c => c < N) (fun _ q _ _ => q) (fun _ _ _ q _ _ _ _ => q)
theorem RP.ps {k c : Nat} (h : RP N nb a own fr k c) : psw own fr c := h.ind (Q := fun _ c => psw own fr c) (fun _ _ _ q => q) (fun _ _ _ _ _ _ _ q => q)
theorem RP.ge {k c : Nat} (h : RP N nb a own fr k c) : wt own c ≤ k := h.ind (Q := fun k c => wt own c ≤ k) (fun _ _ _ _ => Nat.le_refl _) (fun _ _ _ _ _ _ _ _ => Nat.le_add_left _ _)
theorem wt_le (own : Int64) (c : Nat) : wt own c ≤ 1 := by unfold wt; split <;> omega
/-- the fewest, or 1000 -/
def Ds (N : Nat) (nb : Nat → Int64) (a own fr : Int64) (c v : Nat) : Prop := (v ≤ 36 ∧ RP N nb a own fr v c ∧ ∀ k, RP N nb a own fr k c → v ≤ k) ∨ (v = 1000 ∧ ∀ k, ¬ RP N nb a own fr k c)
theorem Ds_u {c v w : Nat} (h : Ds N nb a own fr c v) (g : Ds N nb a own fr c w) : v = w := by
  rcases h with ⟨h1, h2, h3⟩ | ⟨h1, h2⟩ <;> rcases g with ⟨g1, g2, g3⟩ | ⟨g1, g2⟩
  · have := h3 w g2; have := g3 v h2; omega
  · exact absurd h2 (g2 v)
  · exact absurd g2 (h2 w)
  · omega
theorem RP_lev (n : Nat) : (∀ c k, RP N nb a own fr k c → ∃ k', k' ≤ n ∧ RP N nb a own fr k' c) ∨ (∃ d, d < N ∧ RP N nb a own fr (n + 1) d ∧ ∀ k, k ≤ n → ¬ RP N nb a own fr k d) := by
  by_cases q : ∃ d, d < N ∧ RP N nb a own fr (n + 1) d ∧ ∀ k, k ≤ n → ¬ RP N nb a own fr k d
  · exact Or.inr q
  · left
    have key : ∀ d, d < N → RP N nb a own fr (n + 1) d → ∃ k', k' ≤ n ∧ RP N nb a own fr k' d := by
      intro d d1 d2
      refine Classical.byContradiction (fun z => q ⟨d, d1, d2, fun k k1 k2 => z ⟨k, k1, k2⟩⟩)
    intro c k h
    refine h.ind (Q := fun _ c => ∃ k', k' ≤ n ∧ RP N nb a own fr k' c) (fun c c1 c2 c3 => ?_) (fun m c d d1 _ p d2 d3 => ?_)
    · have w := wt_le own c
      by_cases y : wt own c ≤ n
      · exact ⟨_, y, RP.base c1 c2 c3⟩
      · have e : wt own c = n + 1 := by omega
        refine key c c1 ?_
        rw [← e]; exact RP.base c1 c2 c3
    · obtain ⟨k', k1, k2⟩ := p
      have w := wt_le own d
      have s := k2.step d1 d2 d3
      by_cases y : k' + wt own d ≤ n
      · exact ⟨_, y, s⟩
      · have e : k' + wt own d = n + 1 := by omega
        rw [e] at s
        exact key d d1 s
theorem RP_cnt : ∀ n, (∀ c k, RP N nb a own fr k c → ∃ k', k' ≤ n ∧ RP N nb a own fr k' c) ∨ n + 1 ≤ cf (fun c => pdec (∃ k, k ≤ n + 1 ∧ RP N nb a own fr k c)) N := by
  intro n
  induction n with
  | zero =>
    rcases RP_lev (N := N) (nb := nb) (a := a) (own := own) (fr := fr) 0 with h | ⟨d, d1, d2, _⟩
    · exact Or.inl h
    · right
      exact cf_one (p := fun c => pdec (∃ k, k ≤ 0 + 1 ∧ RP N nb a own fr k c)) d1 (pdec_t.2 ⟨1, by omega, d2⟩)
  | succ n ih =>
    rcases ih with h | h
    · left
      intro c k q
      obtain ⟨k', k1, k2⟩ := h c k q
      exact ⟨k', by omega, k2⟩
    · rcases RP_lev (N := N) (nb := nb) (a := a) (own := own) (fr := fr) (n + 1) with g | ⟨d, d1, d2, d3⟩
      · exact Or.inl g
      · right
        have := cf_lt2 (p := fun c => pdec (∃ k, k ≤ n + 1 ∧ RP N nb a own fr k c)) (q := fun c => pdec (∃ k, k ≤ n + 1 + 1 ∧ RP N nb a own fr k c)) d1 (bool_f (fun z => by
          obtain ⟨k, k1, k2⟩ := pdec_t.1 z
          exact d3 k k1 k2)) (pdec_t.2 ⟨n + 1 + 1, by omega, d2⟩) (fun c hc => by
          obtain ⟨k, k1, k2⟩ := pdec_t.1 hc
          exact pdec_t.2 ⟨k, by omega, k2⟩)
        omega
theorem RP_36 (hN : N ≤ 36) {c k : Nat} (h : RP N nb a own fr k c) : ∃ k', k' ≤ 36 ∧ RP N nb a own fr k' c := by
  rcases RP_cnt (N := N) (nb := nb) (a := a) (own := own) (fr := fr) 36 with q | q
  · exact q c k h
  · have := cf_le (fun c => pdec (∃ k, k ≤ 36 + 1 ∧ RP N nb a own fr k c)) N
    omega
theorem min_ex {P : Nat → Prop} : ∀ n, P n → ∃ m, m ≤ n ∧ P m ∧ ∀ k, P k → m ≤ k := by
  intro n
  induction n using Nat.strongRecOn with
  | ind n ih =>
    intro h
    by_cases q : ∃ k, k < n ∧ P k
    · obtain ⟨k, k1, k2⟩ := q
      obtain ⟨m, m1, m2, m3⟩ := ih k k1 k2
      exact ⟨m, by omega, m2, m3⟩
    · exact ⟨n, Nat.le_refl _, h, fun k hk => Decidable.byContradiction (fun z => q ⟨k, by omega, hk⟩)⟩
theorem Ds_ex (hN : N ≤ 36) (c : Nat) : ∃ v, Ds N nb a own fr c v := by
  by_cases q : ∃ k, RP N nb a own fr k c
  · obtain ⟨k, hk⟩ := q
    obtain ⟨k', k1, k2⟩ := RP_36 hN hk
    obtain ⟨m, m1, m2, m3⟩ := min_ex (P := fun k => RP N nb a own fr k c) k' k2
    exact ⟨m, Or.inl ⟨by omega, m2, m3⟩⟩
  · exact ⟨1000, Or.inr ⟨rfl, fun k hk => q ⟨k, hk⟩⟩⟩
/-- where who is one step ahead of the fewest lies -/
theorem Ds_next (hN : N ≤ 36) {f : Nat → Nat} (hs : ∀ c, c < N → (f c = 1000 ∨ RP N nb a own fr (f c) c)) (hb : ∃ c, c < N ∧ ¬ Ds N nb a own fr c (f c)) : ∃ d, d < N ∧ ¬ Ds N nb a own fr d (f d) ∧ psw own fr d ∧ ((mb a d = true ∧ Ds N nb a own fr d (wt own d)) ∨ (∃ p, p < N ∧ mb (nb p) d = true ∧ Ds N nb a own fr p (f p) ∧ f p ≤ 36 ∧ Ds N nb a own fr d (f p + wt own d))) := by
  obtain ⟨c, c1, c2⟩ := hb
  obtain ⟨v, hv⟩ := Ds_ex (nb := nb) (a := a) (own := own) (fr := fr) hN c
  have v1 : RP N nb a own fr v c ∧ (∀ k, RP N nb a own fr k c → v ≤ k) := by
    rcases hv with ⟨_, h2, h3⟩ | ⟨h1, h2⟩
    · exact ⟨h2, h3⟩
    · exfalso
      rcases hs c c1 with q | q
      · exact c2 (by rw [q]; exact Or.inr ⟨rfl, h2⟩)
      · exact h2 _ q
  refine Classical.byContradiction (fun no => ?_)
  have key : ∀ k c, RP N nb a own fr k c → ((∀ k', RP N nb a own fr k' c → k ≤ k') → Ds N nb a own fr c (f c)) := by
    intro k c h
    refine h.ind (Q := fun k c => (∀ k', RP N nb a own fr k' c → k ≤ k') → Ds N nb a own fr c (f c)) (fun c c1 c2 c3 hm => ?_) (fun n c d d1 r ih d2 d3 hm => ?_)
    · refine Classical.byContradiction (fun nd => no ⟨c, c1, nd, c3, Or.inl ⟨c2, Or.inl ⟨?_, RP.base c1 c2 c3, hm⟩⟩⟩)
      have := wt_le own c; omega
    · have hm1 : ∀ k', RP N nb a own fr k' c → n ≤ k' := fun k' hk => by
        have := hm _ (hk.step d1 d2 d3)
        omega
      have dc := ih hm1
      have fc : f c = n ∧ n ≤ 36 := by
        rcases dc with ⟨g1, g2, g3⟩ | ⟨g1, g2⟩
        · have := g3 n r; have := hm1 _ g2; omega
        · exact absurd r (g2 n)
      refine Classical.byContradiction (fun nd => no ⟨d, d1, nd, d3, Or.inr ⟨c, r.lt, d2, dc, by omega, ?_⟩⟩)
      rw [fc.1]
      obtain ⟨k', k1, k2⟩ := RP_36 hN (r.step d1 d2 d3)
      have := hm _ k2
      exact Or.inl ⟨by omega, r.step d1 d2 d3, hm⟩
  exact c2 (key v c v1.1 v1.2)
/-- on the way back: two sides -/
theorem RP_join {b : Int64} (sym : ∀ c d, c < N → d < N → mb (nb c) d = true → mb (nb d) c = true) {k c : Nat} (h : RP N nb b own fr k c) : ∀ j, RP N nb a own fr j c → ∃ c', c' < N ∧ mb b c' = true ∧ psw own fr c' ∧ RP N nb a own fr (j + k - wt own c) c' := by
  refine h.ind (Q := fun k c => ∀ j, RP N nb a own fr j c → ∃ c', c' < N ∧ mb b c' = true ∧ psw own fr c' ∧ RP N nb a own fr (j + k - wt own c) c') (fun c c1 c2 c3 j hj => ?_) (fun n c d d1 r ih d2 d3 j hj => ?_)
  · refine ⟨c, c1, c2, c3, ?_⟩
    rw [Nat.add_sub_cancel]; exact hj
  · have s := hj.step r.lt (sym c d r.lt d1 d2) r.ps
    obtain ⟨c', e1, e2, e3, e4⟩ := ih _ s
    refine ⟨c', e1, e2, e3, ?_⟩
    have := r.ge
    rw [show j + (n + wt own d) - wt own d = j + wt own c + n - wt own c by omega]
    exact e4
end
/-- the least of some, or 1000 -/
def mn (p : Nat → Bool) (v : Nat → Nat) : Nat → Nat
  | 0 => 1000
  | n + 1 => if p n = true then min (mn p v n) (v n) else mn p v n
theorem mn_le1 (p : Nat → Bool) (v : Nat → Nat) : ∀ n, mn p v n ≤ 1000 := by
  intro n
  induction n with
  | zero => exact Nat.le_refl _
  | succ n ih =>
    show (if p n = true then min (mn p v n) (v n) else mn p v n) ≤ 1000
    split
    · exact Nat.le_trans (Nat.min_le_left _ _) ih
    · exact ih
theorem mn_le {p : Nat → Bool} {v : Nat → Nat} {n c : Nat} (hc : c < n) (hp : p c = true) : mn p v n ≤ v c := by
  induction n with
  | zero => omega
  | succ n ih =>
    show (if p n = true then min (mn p v n) (v n) else mn p v n) ≤ v c
    by_cases q : c = n
    · subst q; rw [if_pos hp]; exact Nat.min_le_right _ _
    · have i := ih (by omega)
      split
      · exact Nat.le_trans (Nat.min_le_left _ _) i
      · exact i
theorem mn_att (p : Nat → Bool) (v : Nat → Nat) : ∀ n, mn p v n = 1000 ∨ ∃ c, c < n ∧ p c = true ∧ mn p v n = v c := by
  intro n
  induction n with
  | zero => exact Or.inl rfl
  | succ n ih =>
    have un : mn p v (n + 1) = (if p n = true then min (mn p v n) (v n) else mn p v n) := rfl
    rw [un]
    by_cases q : p n = true
    · rw [if_pos q]
      by_cases y : v n ≤ mn p v n
      · exact Or.inr ⟨n, by omega, q, Nat.min_eq_right y⟩
      · rw [Nat.min_eq_left (by omega)]
        rcases ih with h | ⟨c, h1, h2, h3⟩
        · exact Or.inl h
        · exact Or.inr ⟨c, by omega, h2, h3⟩
    · rw [if_neg q]
      rcases ih with h | ⟨c, h1, h2, h3⟩
      · exact Or.inl h
      · exact Or.inr ⟨c, by omega, h2, h3⟩

