/-! the state of one object in one relation; how it is carried; the other object -/
abbrev CSd (K R C : Nat) (lg : Nat → Nat) (m : Nat) (sw : Bool) (ea : Nat) (tk : Bool) (se pe us : Nat → Nat) (lo : Nat) (rc : Bool) (t : Nat) (tp : Nat → Nat) (pn : Nat) (ln : Nat → Nat) (tx : Nat → Nat → Nat) (n : Nat) (ra : Nat → Int) (pl wo ls : Nat → Nat) (I : Nat → Nat → Int32) (J : Nat → Nat → Int64) (A : Nat → Nat → Int32) (B : Nat → Nat → Int64) : Prop := CG K R C lg m sw I J A B ∧ TC ea tk se pe us lo I A ∧ I 0 9 = bi rc ∧ YC t tp I A ∧ PC pn ln tx I A ∧ PR pn ln tx A ∧ LC n ra pl wo ls I A
/-- what a call of the one leaves -/
abbrev H39 (I I' : Nat → Nat → Int32) (J J' : Nat → Nat → Int64) (A A' : Nat → Nat → Int32) (B B' : Nat → Nat → Int64) : Prop := (∀ i, 39 ≤ i → I' i = I i) ∧ (∀ i, 39 ≤ i → J' i = J i) ∧ (∀ i, 39 ≤ i → A' i = A i) ∧ (∀ i, 39 ≤ i → B' i = B i)
/-- what a call of the other one leaves -/
abbrev H38 (I I' : Nat → Nat → Int32) (J J' : Nat → Nat → Int64) (A A' : Nat → Nat → Int32) (B B' : Nat → Nat → Int64) : Prop := (∀ i, i < 39 ∨ 78 ≤ i → I' i = I i) ∧ (∀ i, i < 39 ∨ 78 ≤ i → J' i = J i) ∧ (∀ i, i < 39 ∨ 78 ≤ i → A' i = A i) ∧ (∀ i, i < 39 ∨ 78 ≤ i → B' i = B i)
section
variable {K R C : Nat} {lg : Nat → Nat} {m : Nat} {sw : Bool} {ea : Nat} {tk : Bool} {se pe us : Nat → Nat} {lo : Nat} {rc : Bool} {t : Nat} {tp : Nat → Nat} {pn : Nat} {ln : Nat → Nat} {tx : Nat → Nat → Nat} {n : Nat} {ra : Nat → Int} {pl wo ls : Nat → Nat} {I I' : Nat → Nat → Int32} {J J' : Nat → Nat → Int64} {A A' : Nat → Nat → Int32} {B B' : Nat → Nat → Int64} {c : Nat}
theorem H39.rf : H39 I I J J A A B B := ⟨fun _ _ => rfl, fun _ _ => rfl, fun _ _ => rfl, fun _ _ => rfl⟩
theorem H39.tr {I2 : Nat → Nat → Int32} {J2 : Nat → Nat → Int64} {A2 : Nat → Nat → Int32} {B2 : Nat → Nat → Int64} (f : H39 I I' J J' A A' B B') (g : H39 I' I2 J' J2 A' A2 B' B2) : H39 I I2 J J2 A A2 B B2 := ⟨fun i h => by rw [g.1 i h, f.1 i h], fun i h => by rw [g.2.1 i h, f.2.1 i h], fun i h => by rw [g.2.2.1 i h, f.2.2.1 i h], fun i h => by rw [g.2.2.2 i h, f.2.2.2 i h]⟩
theorem FC.h39 (f : FC I I' J J' A A' B B') : H39 I I' J J' A A' B B' := ⟨fun i h => f.1 i (by omega) (by omega) (by omega) (by omega), fun i h => f.2.1 i (by omega) (by omega) (by omega), fun i h => f.2.2.1 i (by omega) (by omega) (by omega) (by omega) (by omega) (by omega) (by omega), fun i _ => f.2.2.2 i⟩
theorem FV.h39 (f : FV I I' J J' A A') : H39 I I' J J' A A' B B := ⟨fun i hi => f.1 i (by omega), fun i hi => f.2.1 i (by omega), fun i hi => f.2.2 i (by omega) (by omega), fun _ _ => rfl⟩
theorem FT.h39 (f : FT I I' A A') : H39 I I' J J A A' B B := ⟨fun i hi => f.1 i (by omega), fun _ _ => rfl, fun i hi => f.2 i (by omega) (by omega) (by omega), fun _ _ => rfl⟩
theorem FL.h39 (f : FL I I' A A') : H39 I I' J J A A' B B := ⟨fun i hi => f.1 i (by omega) (by omega), fun _ _ => rfl, fun i hi => f.2.2 i (by omega) (by omega) (by omega) (by omega), fun _ _ => rfl⟩
theorem FY.h39 (f : FY I I' A A') : H39 I I' J J A A' B B := ⟨fun i hi => f.1 i (by omega), fun _ _ => rfl, fun i hi => f.2.2 i (by omega), fun _ _ => rfl⟩
theorem TC.co (h : TC ea tk se pe us lo I A) (hI : I' 30 = I 30) (h1 : A' 31 = A 31) (h2 : A' 32 = A 32) (h3 : A' 33 = A 33) : TC ea tk se pe us lo I' A' := by
  refine ⟨by rw [hI]; exact h.1, by rw [hI]; exact h.2.1, by rw [hI]; exact h.2.2.1, fun p hp => ?_⟩
  rw [h1, h2, h3]
  exact h.2.2.2 p hp
theorem YC.co (h : YC t tp I A) (hI : I' 24 6 = I 24 6) (hA : A' 25 = A 25) : YC t tp I' A' := ⟨by rw [hI]; exact h.1, h.2.1, fun j hj => by rw [hA]; exact h.2.2 j hj⟩
theorem PC.co (h : PC pn ln tx I A) (hI : I' 24 7 = I 24 7) (h1 : A' 26 = A 26) (h2 : A' 27 = A 27) : PC pn ln tx I' A' := ⟨by rw [hI]; exact h.1, h.2.1, fun p hp => by rw [h1, h2]; exact h.2.2 p hp⟩
theorem PR.co (h : PR pn ln tx A) (h1 : A' 28 = A 28) (h2 : A' 29 = A 29) : PR pn ln tx A' := fun p hp => by
  obtain ⟨nr, a, b, d, e⟩ := h p hp
  exact ⟨nr, by rw [h2]; exact a, b, fun r hr => ⟨(d r hr).1, by rw [h1]; exact (d r hr).2⟩, e⟩
theorem LC.co (h : LC n ra pl wo ls I A) (hI : I' 34 4 = I 34 4) (h1 : A' 35 = A 35) (h2 : A' 36 = A 36) (h3 : A' 37 = A 37) (h4 : A' 38 = A 38) : LC n ra pl wo ls I' A' := ⟨by rw [hI]; exact h.1, h.2.1, fun p hp => by rw [h1, h2]; exact h.2.2.1 p hp, fun p hp => by rw [h3, h4]; exact h.2.2.2 p hp⟩
theorem CSd.low (h : CSd K R C lg m sw ea tk se pe us lo rc t tp pn ln tx n ra pl wo ls I J A B) (f1 : ∀ i, i < 39 → I' i = I i) (f2 : ∀ i, i < 39 → J' i = J i) (f3 : ∀ i, i < 39 → A' i = A i) (f4 : ∀ i, i < 39 → B' i = B i) : CSd K R C lg m sw ea tk se pe us lo rc t tp pn ln tx n ra pl wo ls I' J' A' B' := by
  obtain ⟨g, tc, r, y, p, q, l⟩ := h
  exact ⟨g.low I J A B (fun i hi => f1 i (by omega)) (fun i hi => f2 i (by omega)) (fun i hi => f3 i (by omega)) (fun i hi => f4 i (by omega)), tc.co (f1 30 (by decide)) (f3 31 (by decide)) (f3 32 (by decide)) (f3 33 (by decide)), by rw [f1 0 (by decide)]; exact r, y.co (by rw [f1 24 (by decide)]) (f3 25 (by decide)), p.co (by rw [f1 24 (by decide)]) (f3 26 (by decide)) (f3 27 (by decide)), q.co (f3 28 (by decide)) (f3 29 (by decide)), l.co (by rw [f1 34 (by decide)]) (f3 35 (by decide)) (f3 36 (by decide)) (f3 37 (by decide)) (f3 38 (by decide))⟩
theorem CSd.fc (h : CSd K R C lg m sw ea tk se pe us lo rc t tp pn ln tx n ra pl wo ls I J A B) (f : FC I I' J J' A A' B B') (q : BQ K R C I' J' A' B') : CSd K R C lg m sw ea tk se pe us lo rc t tp pn ln tx n ra pl wo ls I' J' A' B' := by
  obtain ⟨g, tc, r, y, p, u, l⟩ := h
  have hA : ∀ i, 23 < i → A' i = A i := fun i hi => f.2.2.1 i (by omega) (by omega) (by omega) (by omega) (by omega) (by omega) (by omega)
  have hI : ∀ i, 23 < i → I' i = I i := fun i hi => f.1 i (by omega) (by omega) (by omega) (by omega)
  exact ⟨g.fr f q, tc.co (hI 30 (by decide)) (hA 31 (by decide)) (hA 32 (by decide)) (hA 33 (by decide)), by rw [f.1 0 (by decide) (by decide) (by decide) (by decide)]; exact r, y.co (by rw [hI 24 (by decide)]) (hA 25 (by decide)), p.co (by rw [hI 24 (by decide)]) (hA 26 (by decide)) (hA 27 (by decide)), u.co (hA 28 (by decide)) (hA 29 (by decide)), l.co (by rw [hI 34 (by decide)]) (hA 35 (by decide)) (hA 36 (by decide)) (hA 37 (by decide)) (hA 38 (by decide))⟩
theorem CSd.fv {lg' : Nat → Nat} {m' : Nat} {sw' : Bool} {us' : Nat → Nat} (hc : CSd K R C lg m sw ea tk se pe us lo rc t tp pn ln tx n ra pl wo ls I J A B) (g : CG K R C lg' m' sw' I' J' A' B) (t' : TC ea tk se pe us' lo I' A') (f : FV I I' J J' A A') : CSd K R C lg' m' sw' ea tk se pe us' lo rc t tp pn ln tx n ra pl wo ls I' J' A' B := by
  obtain ⟨_, _, r, y, p, u, l⟩ := hc
  have hA : ∀ i, 24 ≤ i → i ≠ 33 → A' i = A i := fun i h1 h2 => f.2.2 i (by omega) h2
  exact ⟨g, t', by rw [f.1 0 (by decide)]; exact r, y.co (by rw [f.1 24 (by decide)]) (hA 25 (by decide) (by decide)), p.co (by rw [f.1 24 (by decide)]) (hA 26 (by decide) (by decide)) (hA 27 (by decide) (by decide)), u.co (hA 28 (by decide) (by decide)) (hA 29 (by decide) (by decide)), l.co (by rw [f.1 34 (by decide)]) (hA 35 (by decide) (by decide)) (hA 36 (by decide) (by decide)) (hA 37 (by decide) (by decide)) (hA 38 (by decide) (by decide))⟩
theorem CSd.fy {t' pn' : Nat} {tp' ln' : Nat → Nat} {tx' : Nat → Nat → Nat} (hc : CSd K R C lg m sw ea tk se pe us lo rc t tp pn ln tx n ra pl wo ls I J A B) (fI : ∀ i, i ≠ 24 → I' i = I i) (fA : ∀ i, i < 25 ∨ 29 < i → A' i = A i) (y' : YC t' tp' I' A') (p' : PC pn' ln' tx' I' A') (u' : PR pn' ln' tx' A') : CSd K R C lg m sw ea tk se pe us lo rc t' tp' pn' ln' tx' n ra pl wo ls I' J A' B := by
  obtain ⟨g, tc, r, _, _, _, l⟩ := hc
  exact ⟨g.low I J A B (fun i hi => fI i (by omega)) (fun _ _ => rfl) (fun i hi => fA i (by omega)) (fun _ _ => rfl), tc.co (fI 30 (by decide)) (fA 31 (by decide)) (fA 32 (by decide)) (fA 33 (by decide)), by rw [fI 0 (by decide)]; exact r, y', p', u', l.co (by rw [fI 34 (by decide)]) (fA 35 (by decide)) (fA 36 (by decide)) (fA 37 (by decide)) (fA 38 (by decide))⟩
theorem CSd.ft {ea' : Nat} {tk' : Bool} {se' pe' us' : Nat → Nat} {lo' : Nat} (hc : CSd K R C lg m sw ea tk se pe us lo rc t tp pn ln tx n ra pl wo ls I J A B) (f : FT I I' A A') (t' : TC ea' tk' se' pe' us' lo' I' A') : CSd K R C lg m sw ea' tk' se' pe' us' lo' rc t tp pn ln tx n ra pl wo ls I' J A' B := by
  obtain ⟨g, _, r, y, p, u, l⟩ := hc
  have hA : ∀ i, i < 31 ∨ 33 < i → A' i = A i := fun i hi => f.2 i (by omega) (by omega) (by omega)
  exact ⟨g.ft I J A B f, t', by rw [f.1 0 (by decide)]; exact r, y.co (by rw [f.1 24 (by decide)]) (hA 25 (by decide)), p.co (by rw [f.1 24 (by decide)]) (hA 26 (by decide)) (hA 27 (by decide)), u.co (hA 28 (by decide)) (hA 29 (by decide)), l.co (by rw [f.1 34 (by decide)]) (hA 35 (by decide)) (hA 36 (by decide)) (hA 37 (by decide)) (hA 38 (by decide))⟩
theorem CSd.fl {rc' : Bool} {n' : Nat} {ra' : Nat → Int} {pl' wo' ls' : Nat → Nat} (hc : CSd K R C lg m sw ea tk se pe us lo rc t tp pn ln tx n ra pl wo ls I J A B) (f : FL I I' A A') (r' : I' 0 9 = bi rc') (l' : LC n' ra' pl' wo' ls' I' A') : CSd K R C lg m sw ea tk se pe us lo rc' t tp pn ln tx n' ra' pl' wo' ls' I' J A' B := by
  obtain ⟨g, tc, _, y, p, u, _⟩ := hc
  have hA : ∀ i, i < 35 → A' i = A i := fun i hi => f.2.2 i (by omega) (by omega) (by omega) (by omega)
  have hI : ∀ i, 0 < i → i < 34 → I' i = I i := fun i h1 h2 => f.1 i (by omega) (by omega)
  exact ⟨g.low' I J A B (fun i h1 h2 => hI i h1 (by omega)) (fun _ _ => rfl) (fun i hi => hA i (by omega)) (fun _ _ => rfl), tc.co (hI 30 (by decide) (by decide)) (hA 31 (by decide)) (hA 32 (by decide)) (hA 33 (by decide)), r', y.co (by rw [hI 24 (by decide) (by decide)]) (hA 25 (by decide)), p.co (by rw [hI 24 (by decide) (by decide)]) (hA 26 (by decide)) (hA 27 (by decide)), u.co (hA 28 (by decide)) (hA 29 (by decide)), l'⟩
/-- another log that is the same below m -/
theorem CSd.lgc {lg' : Nat → Nat} (h : CSd K R C lg m sw ea tk se pe us lo rc t tp pn ln tx n ra pl wo ls I J A B) (hl : ∀ i, i < m → lg' i = lg i) : CSd K R C lg' m sw ea tk se pe us lo rc t tp pn ln tx n ra pl wo ls I J A B := by
  obtain ⟨⟨g1, ⟨p1, p2, p3, p4⟩, g3, g4, g5, g6⟩, r⟩ := h
  have e : ∀ p, sN lg' m sw p = sN lg m sw p := fun p => stN_congr _ p m hl
  exact ⟨⟨g1, ⟨p1, p2, p3, fun i hi => by rw [hl i hi]; exact p4 i hi⟩, by rw [e]; exact g3, by rw [e]; exact g4, by rw [e, e]; exact g5, g6⟩, r⟩
end
/-! the other object -/
def pI {α : Type} (f : Nat → Nat → α) : Nat → Nat → α := fun i j => f (pi i) j
theorem pI_pI {α : Type} (f : Nat → Nat → α) : pI (pI f) = f := by
  funext i j
  unfold pI
  rw [pi_pi]
theorem pT_0 {α : Type} (T f : Nat → Nat → α) : pT 0 T f = pI f := by
  funext i j
  unfold pT pI
  rw [if_neg (by omega)]
theorem pV_R0 (k p : Nat) : pV (mm_R0 (pi k) p) = mm_R0 k p := by
  by_cases hk : k < 79
  · by_cases hp : p < 41
    · have h : (List.range 79).all (fun k => (List.range 41).all (fun p => veq (pV (mm_R0 (pi k) p)) (mm_R0 k p))) = true := by decide +kernel
      exact veq_eq (List.all_eq_true.mp (List.all_eq_true.mp h k (List.mem_range.2 hk)) p (List.mem_range.2 hp))
    · rw [R0_p (by omega), R0_p (by omega)]; rfl
  · rw [pi_out (by omega), R0_k (by omega)]; rfl
theorem pTR_0 (T : Nat → Nat → Value) : pTR 0 T mm_R0 = mm_R0 := by
  funext i j
  unfold pTR
  rw [if_neg (by omega)]
  exact pV_R0 i j
theorem pS_0 (e : Nat) (I : Nat → Nat → Int32) (J : Nat → Nat → Int64) (A : Nat → Nat → Int32) (B : Nat → Nat → Int64) : pS 0 mm_S0 (79, e, mm_R0, I, J, A, B) = (79, e, mm_R0, pI I, pI J, pI A, pI B) := by
  show (79 + 0, e, pTR 0 _ mm_R0, pT 0 _ I, pT 0 _ J, pT 0 _ A, pT 0 _ B) = _
  rw [pTR_0, pT_0, pT_0, pT_0, pT_0]
def oP : Option Value ⊕ Nat → Option Value ⊕ Nat
  | .inl v => .inl (v.map pV)
  | .inr E => .inr E
/-- what a code does of the one it does of the other one -/
theorem sw_of {f : mm_F} (q : mm_QF 0 mm_S0 f) {as : List Value} {e e' : Nat} {o : Option Value ⊕ Nat} {I I' : Nat → Nat → Int32} {J J' : Nat → Nat → Int64} {A A' : Nat → Nat → Int32} {B B' : Nat → Nat → Int64} (h : f as (79, e, mm_R0, pI I, pI J, pI A, pI B) = some (o, (79, e', mm_R0, I', J', A', B'))) :
    f (as.map pV) (79, e, mm_R0, I, J, A, B) = some (oP o, (79, e', mm_R0, pI I', pI J', pI A', pI B')) := by
  have := q as _ _ h (Or.inl ⟨rfl, rfl⟩) (Or.inl ⟨rfl, rfl⟩)
  rw [pS_0, pI_pI, pI_pI, pI_pI, pI_pI] at this
  rw [this]
  unfold pR
  rw [pS_0]
  cases o <;> rfl
abbrev P4 : Type := (Nat → Nat → Int32) → (Nat → Nat → Int64) → (Nat → Nat → Int32) → (Nat → Nat → Int64) → Prop
/-- a call of the one: what it answers, what it leaves -/
def Cal (f : mm_F) (as : List Value) (v : Option Value) (W W' : P4) : Prop := ∀ e I J A B, W I J A B → ∃ e' I' J' A' B', f (.ref 0 :: as) (79, e, mm_R0, I, J, A, B) = some (.inl v, (79, e', mm_R0, I', J', A', B')) ∧ W' I' J' A' B' ∧ H39 I I' J J' A A' B B' ∧ e' ≤ e + 1
def LowP (W : P4) : Prop := ∀ I I' J J' A A' B B', W I J A B → (∀ i, i < 39 → I' i = I i) → (∀ i, i < 39 → J' i = J i) → (∀ i, i < 39 → A' i = A i) → (∀ i, i < 39 → B' i = B i) → W I' J' A' B'
theorem CSd.lowP (K R C : Nat) (lg : Nat → Nat) (m : Nat) (sw : Bool) (ea : Nat) (tk : Bool) (se pe us : Nat → Nat) (lo : Nat) (rc : Bool) (t : Nat) (tp : Nat → Nat) (pn : Nat) (ln : Nat → Nat) (tx : Nat → Nat → Nat) (n : Nat) (ra : Nat → Int) (pl wo ls : Nat → Nat) : LowP (fun I J A B => CSd K R C lg m sw ea tk se pe us lo rc t tp pn ln tx n ra pl wo ls I J A B) := fun _ _ _ _ _ _ _ _ h f1 f2 f3 f4 => CSd.low h f1 f2 f3 f4
theorem pI_hi {α : Type} {f g : Nat → Nat → α} (h : ∀ i, 39 ≤ i → g i = f i) : ∀ i, i < 39 → pI g i = pI f i := by
  intro i hi
  funext j
  unfold pI
  rw [pi_lo hi, h _ (by omega)]
theorem pI_lo {α : Type} {f g : Nat → Nat → α} (h : ∀ i, 39 ≤ i → g i = pI f i) : ∀ i, i < 39 ∨ 78 ≤ i → pI g i = f i := by
  intro i hi
  funext j
  unfold pI
  rcases hi with hi | hi
  · rw [pi_lo hi, h _ (by omega)]
    unfold pI
    rw [pi_hi (by omega) (by omega)]
    rw [show i + 39 - 39 = i by omega]
  · rw [pi_out hi, h _ (by omega)]
    unfold pI
    rw [pi_out hi]
theorem Cal.twin {f : mm_F} {as : List Value} {v : Option Value} {W W' : P4} (h : Cal f as v W W') (q : mm_QF 0 mm_S0 f) (hv : v.map pV = v) (ha : as.map pV = as) (e : Nat) (I : Nat → Nat → Int32) (J : Nat → Nat → Int64) (A : Nat → Nat → Int32) (B : Nat → Nat → Int64) (w : W (pI I) (pI J) (pI A) (pI B)) : ∃ e' I' J' A' B', f (.ref 39 :: as) (79, e, mm_R0, I, J, A, B) = some (.inl v, (79, e', mm_R0, I', J', A', B')) ∧ W' (pI I') (pI J') (pI A') (pI B') ∧ H38 I I' J J' A A' B B' ∧ e' ≤ e + 1 := by
  obtain ⟨e', I', J', A', B', h1, h2, h3, h4⟩ := h e _ _ _ _ w
  have k := sw_of q h1
  refine ⟨e', pI I', pI J', pI A', pI B', ?_, ?_, ⟨pI_lo h3.1, pI_lo h3.2.1, pI_lo h3.2.2.1, pI_lo h3.2.2.2⟩, h4⟩
  · have e1 : (Value.ref 0 :: as).map pV = .ref 39 :: as := by
      rw [List.map_cons, ha]; rfl
    rw [e1] at k
    rw [k]
    show some (Sum.inl (v.map pV), _) = _
    rw [hv]
  · rw [pI_pI, pI_pI, pI_pI, pI_pI]; exact h2
/-- the same call to both -/
theorem both_of {x2 x3 x4 x5 x6 v : Int32} {W W' : P4} (h : Cal f_L_call [.int x2, .int x3, .int x4, .int x5, .int x6] (some (.int v)) W W') (l : LowP W) (l' : LowP W') (e : Nat) (I : Nat → Nat → Int32) (J : Nat → Nat → Int64) (A : Nat → Nat → Int32) (B : Nat → Nat → Int64) (w : W I J A B) (w2 : W (pI I) (pI J) (pI A) (pI B)) : ∃ e' I' J' A' B', f_L_both [.ref 0, .ref 39, .int x2, .int x3, .int x4, .int x5, .int x6] (79, e, mm_R0, I, J, A, B) = some (.inl (some (.int v)), (79, e', mm_R0, I', J', A', B')) ∧ W' I' J' A' B' ∧ W' (pI I') (pI J') (pI A') (pI B') ∧ A' 78 = A 78 ∧ e' ≤ e + 2 := by
  obtain ⟨e1, I1, J1, A1, B1, h1, h2, h3, h4⟩ := h e _ _ _ _ w
  have w3 : W (pI I1) (pI J1) (pI A1) (pI B1) := l _ _ _ _ _ _ _ _ w2 (pI_hi h3.1) (pI_hi h3.2.1) (pI_hi h3.2.2.1) (pI_hi h3.2.2.2)
  obtain ⟨e2, I2, J2, A2, B2, k1, k2, k3, k4⟩ := h.twin qf_L_call rfl rfl e1 I1 J1 A1 B1 w3
  refine ⟨e2, I2, J2, A2, B2, ?_, l' _ _ _ _ _ _ _ _ h2 (fun i hi => k3.1 i (Or.inl hi)) (fun i hi => k3.2.1 i (Or.inl hi)) (fun i hi => k3.2.2.1 i (Or.inl hi)) (fun i hi => k3.2.2.2 i (Or.inl hi)), k2, by rw [k3.2.2.1 78 (Or.inr (by decide)), h3.2.2.1 78 (by decide)], by omega⟩
  rw [en_L_both, sg_L_both_0, h1, mm_aft_v, sg_L_both_12, k1, mm_aft_v, sg_L_both_28, if_pos rfl, sg_L_both_38]
