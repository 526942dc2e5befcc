/-! the state of both sides in one relation; how it is carried; a call of the law on both sides -/
abbrev CSd (K R C : Nat) (lg : Nat → Nat) (m : Nat) (sw : Bool) (ea : Nat) (tk : Bool) (se pe us : Nat → Nat) (lo : Nat) (rc : Bool) (t : Nat) (tp : Nat → Nat) (pn : Nat) (ln : Nat → Nat) (tx : Nat → Nat → Nat) (n : Nat) (ra : Nat → Int) (pl wo ls : Nat → Nat) (I : Nat → Nat → Int32) (J : Nat → Nat → Int64) (A : Nat → Nat → Int32) (B : Nat → Nat → Int64) : Prop := CG K R C lg m sw I J A B ∧ TC ea tk se pe us lo I A ∧ I 0 9 = bi rc ∧ YC t tp I A ∧ PC pn ln tx I A ∧ PR pn ln tx A ∧ LC n ra pl wo ls I A
abbrev MSd (K R C : Nat) (lg : Nat → Nat) (m : Nat) (sw : Bool) (ea : Nat) (tk : Bool) (se pe us : Nat → Nat) (lo : Nat) (rc : Bool) (t : Nat) (tp : Nat → Nat) (pn : Nat) (ln : Nat → Nat) (tx : Nat → Nat → Nat) (n : Nat) (ra : Nat → Int) (pl wo ls : Nat → Nat) (I : Nat → Nat → Int32) (A : Nat → Nat → Int32) (B : Nat → Nat → Int64) : Prop := MG K R C lg m sw I A B ∧ TM ea tk se pe us lo I A ∧ I 39 14 = bi rc ∧ YM t tp I A ∧ PM pn ln tx I A ∧ LM n ra pl wo ls I A
abbrev BSd (K R C : Nat) (lg : Nat → Nat) (m : Nat) (sw : Bool) (ea : Nat) (tk : Bool) (se pe us : Nat → Nat) (lo : Nat) (rc : Bool) (t : Nat) (tp : Nat → Nat) (pn : Nat) (ln : Nat → Nat) (tx : Nat → Nat → Nat) (n : Nat) (ra : Nat → Int) (pl wo ls : Nat → Nat) (c : Nat) : Prop := WG K R C lg m sw ∧ TB ea tk se pe us lo ∧ YB t tp ∧ PB pn ln tx ∧ LB n ra pl wo ls c ∧ c ≤ 10000
/-- what a call of the class leaves of the reference -/
abbrev HC (I I' : Nat → Nat → Int32) (A A' : Nat → Nat → Int32) (B B' : Nat → Nat → Int64) : Prop := (∀ i, 39 ≤ i → I' i = I i) ∧ (∀ i, 39 ≤ i → A' i = A i) ∧ (∀ i, 39 ≤ i → i < 64 → B' i = B i)
/-- what a call of the reference leaves of the class and of the law's row -/
abbrev HM (I I' : Nat → Nat → Int32) (J J' : Nat → Nat → Int64) (A A' : Nat → Nat → Int32) (B B' : Nat → Nat → Int64) : Prop := (∀ i, i < 39 → I' i = I i) ∧ (∀ i, i < 39 → J' i = J i) ∧ (∀ i, i < 39 → A' i = A i) ∧ (∀ i, i < 39 → B' i = B i) ∧ B' 64 = B 64
def WR (c : Nat) (I : Nat → Nat → Int32) (J : Nat → Nat → Int64) (A : Nat → Nat → Int32) (B : Nat → Nat → Int64) : Prop := ∃ K R C lg m sw ea tk se pe us lo rc t tp pn ln tx n ra pl wo ls, CSd K R C lg m sw ea tk se pe us lo rc t tp pn ln tx n ra pl wo ls I J A B ∧ MSd K R C lg m sw ea tk se pe us lo rc t tp pn ln tx n ra pl wo ls I A B ∧ BSd K R C lg m sw ea tk se pe us lo rc t tp pn ln tx n ra pl wo ls c
section
variable {K R C : Nat} {lg : Nat → Nat} {m : Nat} {sw : Bool} {ea : Nat} {tk : Bool} {se pe us : Nat → Nat} {lo : Nat} {rc : Bool} {t : Nat} {tp : Nat → Nat} {pn : Nat} {ln : Nat → Nat} {tx : Nat → Nat → Nat} {n : Nat} {ra : Nat → Int} {pl wo ls : Nat → Nat} {I I' : Nat → Nat → Int32} {J J' : Nat → Nat → Int64} {A A' : Nat → Nat → Int32} {B B' : Nat → Nat → Int64} {c : Nat}
theorem HC.rf : HC I I A A B B := ⟨fun _ _ => rfl, fun _ _ => rfl, fun _ _ _ => rfl⟩
theorem HC.out (f : HC I I' A A' B B') (x : Int64) : HC I I' A A' B (mm_up B' 64 0 x) := ⟨f.1, f.2.1, fun i h1 h2 => by rw [mm_up_row _ _ _ _ _ (by omega), f.2.2 i h1 h2]⟩
theorem HM.th (x : Int32) : HM I (mm_up I 39 39 x) J J A A B B := ⟨fun i h => mm_up_row _ _ _ _ _ (by omega), fun _ _ => rfl, fun _ _ => rfl, fun _ _ => rfl, rfl⟩
theorem FM.hm (f : FM I I' J J' A A' B B') : HM I I' J J' A A' B B' := ⟨fun i h => f.1 i (by omega), fun i h => f.2.2.1 i (by omega), fun i h => f.2.2.2.1 i (by omega) (by omega) (by omega) (by omega) (by omega), fun i h => f.2.2.2.2 i (by omega), f.2.2.2.2 64 (by decide)⟩
theorem FC.hc (f : FC I I' J J' A A' B B') : HC I I' A A' B B' := ⟨fun i h => f.1 i (by omega) (by omega) (by omega) (by omega), fun i h => f.2.2.1 i (by omega) (by omega) (by omega) (by omega) (by omega) (by omega) (by omega), fun i _ _ => f.2.2.2 i⟩
theorem TC.co (h : TC ea tk se pe us lo I A) (hI : I' 30 = I 30) (h1 : A' 31 = A 31) (h2 : A' 32 = A 32) (h3 : A' 33 = A 33) : TC ea tk se pe us lo I' A' := by
  refine ⟨by rw [hI]; exact h.1, by rw [hI]; exact h.2.1, by rw [hI]; exact h.2.2.1, fun p hp => ?_⟩
  rw [h1, h2, h3]
  exact h.2.2.2 p hp
theorem TM.co (h : TM ea tk se pe us lo I A) (i1 : I' 39 13 = I 39 13) (i2 : I' 39 15 = I 39 15) (i3 : I' 39 16 = I 39 16) (h1 : A' 47 = A 47) (h2 : A' 48 = A 48) (h3 : A' 49 = A 49) : TM ea tk se pe us lo I' A' := by
  refine ⟨fun z => by rw [i3]; exact h.1 z, by rw [i2]; exact h.2.1, by rw [i1]; exact h.2.2.1, fun p hp => ?_⟩
  rw [h1, h2, h3]
  exact h.2.2.2 p hp
theorem YC.co (h : YC t tp I A) (hI : I' 24 6 = I 24 6) (hA : A' 25 = A 25) : YC t tp I' A' := ⟨by rw [hI]; exact h.1, h.2.1, fun j hj => by rw [hA]; exact h.2.2 j hj⟩
theorem YM.co (h : YM t tp I A) (hI : I' 39 27 = I 39 27) (hA : A' 55 = A 55) : YM t tp I' A' := ⟨by rw [hI]; exact h.1, h.2.1, fun j hj => by rw [hA]; exact h.2.2 j hj⟩
theorem PC.co (h : PC pn ln tx I A) (hI : I' 24 7 = I 24 7) (h1 : A' 26 = A 26) (h2 : A' 27 = A 27) : PC pn ln tx I' A' := ⟨by rw [hI]; exact h.1, h.2.1, fun p hp => by rw [h1, h2]; exact h.2.2 p hp⟩
theorem PM.co (h : PM pn ln tx I A) (hI : I' 39 28 = I 39 28) (h1 : A' 56 = A 56) (h2 : A' 57 = A 57) : PM pn ln tx I' A' := ⟨by rw [hI]; exact h.1, h.2.1, fun p hp => by rw [h1, h2]; exact h.2.2 p hp⟩
theorem PR.co (h : PR pn ln tx A) (h1 : A' 28 = A 28) (h2 : A' 29 = A 29) : PR pn ln tx A' := fun p hp => by
  obtain ⟨nr, a, b, d, e⟩ := h p hp
  exact ⟨nr, by rw [h2]; exact a, b, fun r hr => ⟨(d r hr).1, by rw [h1]; exact (d r hr).2⟩, e⟩
theorem LC.co (h : LC n ra pl wo ls I A) (hI : I' 34 4 = I 34 4) (h1 : A' 35 = A 35) (h2 : A' 36 = A 36) (h3 : A' 37 = A 37) (h4 : A' 38 = A 38) : LC n ra pl wo ls I' A' := ⟨by rw [hI]; exact h.1, h.2.1, fun p hp => by rw [h1, h2]; exact h.2.2.1 p hp, fun p hp => by rw [h3, h4]; exact h.2.2.2 p hp⟩
theorem LM.co (h : LM n ra pl wo ls I A) (hI : I' 39 31 = I 39 31) (h1 : A' 58 = A 58) (h2 : A' 59 = A 59) (h3 : A' 60 = A 60) (h4 : A' 61 = A 61) : LM n ra pl wo ls I' A' := ⟨by rw [hI]; exact h.1, h.2.1, fun p hp => by rw [h1, h2]; exact h.2.2.1 p hp, fun p hp => by rw [h3, h4]; exact h.2.2.2 p hp⟩
theorem MG.co (h : MG K R C lg m sw I A B) (hI : I' 39 = I 39) (hA : ∀ i, 39 ≤ i → A' i = A i) (hB : ∀ i, 39 ≤ i → i < 64 → B' i = B i) : MG K R C lg m sw I' A' B' := by
  obtain ⟨h1, ⟨r1, r2, r3, r4⟩, h3, h4, h5⟩ := h
  exact ⟨h1.fr (fun p _ => by rw [hI]) (hA 40 (by decide)) (hA 41 (by decide)) (hA 42 (by decide)) (hB 43 (by decide) (by decide)) (hB 44 (by decide) (by decide)), ⟨by rw [hI]; exact r1, by rw [hI]; exact r2, r3, fun i hi => by rw [hA 46 (by decide)]; exact r4 i hi⟩, by rw [hB 45 (by decide) (by decide)]; exact h3, by rw [hB 45 (by decide) (by decide)]; exact h4, fun j hj => by rw [hA 51 (by decide)]; exact h5 j hj⟩
theorem CSd.hm (h : CSd K R C lg m sw ea tk se pe us lo rc t tp pn ln tx n ra pl wo ls I J A B) (f : HM I I' J J' A A' B B') : CSd K R C lg m sw ea tk se pe us lo rc t tp pn ln tx n ra pl wo ls I' J' A' B' := by
  obtain ⟨g, tc, r, y, p, q, l⟩ := h
  obtain ⟨f1, f2, f3, f4, _⟩ := f
  exact ⟨g.low I J A B (fun i hi => f1 i (by omega)) (fun i hi => f2 i (by omega)) (fun i hi => f3 i (by omega)) (fun i hi => f4 i (by omega)), tc.co (f1 30 (by decide)) (f3 31 (by decide)) (f3 32 (by decide)) (f3 33 (by decide)), by rw [f1 0 (by decide)]; exact r, y.co (by rw [f1 24 (by decide)]) (f3 25 (by decide)), p.co (by rw [f1 24 (by decide)]) (f3 26 (by decide)) (f3 27 (by decide)), q.co (f3 28 (by decide)) (f3 29 (by decide)), l.co (by rw [f1 34 (by decide)]) (f3 35 (by decide)) (f3 36 (by decide)) (f3 37 (by decide)) (f3 38 (by decide))⟩
theorem MSd.hc (h : MSd K R C lg m sw ea tk se pe us lo rc t tp pn ln tx n ra pl wo ls I A B) (f : HC I I' A A' B B') : MSd K R C lg m sw ea tk se pe us lo rc t tp pn ln tx n ra pl wo ls I' A' B' := by
  obtain ⟨g, tc, r, y, p, l⟩ := h
  obtain ⟨f1, f2, f3⟩ := f
  have i39 := f1 39 (by decide)
  exact ⟨g.co i39 f2 f3, tc.co (by rw [i39]) (by rw [i39]) (by rw [i39]) (f2 47 (by decide)) (f2 48 (by decide)) (f2 49 (by decide)), by rw [i39]; exact r, y.co (by rw [i39]) (f2 55 (by decide)), p.co (by rw [i39]) (f2 56 (by decide)) (f2 57 (by decide)), l.co (by rw [i39]) (f2 58 (by decide)) (f2 59 (by decide)) (f2 60 (by decide)) (f2 61 (by decide))⟩
theorem CSd.fc (h : CSd K R C lg m sw ea tk se pe us lo rc t tp pn ln tx n ra pl wo ls I J A B) (f : FC I I' J J' A A' B B') (q : BQ K R C I' J' A' B') : CSd K R C lg m sw ea tk se pe us lo rc t tp pn ln tx n ra pl wo ls I' J' A' B' := by
  obtain ⟨g, tc, r, y, p, u, l⟩ := h
  have hA : ∀ i, 23 < i → A' i = A i := fun i hi => f.2.2.1 i (by omega) (by omega) (by omega) (by omega) (by omega) (by omega) (by omega)
  have hI : ∀ i, 23 < i → I' i = I i := fun i hi => f.1 i (by omega) (by omega) (by omega) (by omega)
  exact ⟨g.fr f q, tc.co (hI 30 (by decide)) (hA 31 (by decide)) (hA 32 (by decide)) (hA 33 (by decide)), by rw [f.1 0 (by decide) (by decide) (by decide) (by decide)]; exact r, y.co (by rw [hI 24 (by decide)]) (hA 25 (by decide)), p.co (by rw [hI 24 (by decide)]) (hA 26 (by decide)) (hA 27 (by decide)), u.co (hA 28 (by decide)) (hA 29 (by decide)), l.co (by rw [hI 34 (by decide)]) (hA 35 (by decide)) (hA 36 (by decide)) (hA 37 (by decide)) (hA 38 (by decide))⟩
theorem MSd.fm (h : MSd K R C lg m sw ea tk se pe us lo rc t tp pn ln tx n ra pl wo ls I A B) (f : FM I I' J J' A A' B B') : MSd K R C lg m sw ea tk se pe us lo rc t tp pn ln tx n ra pl wo ls I' A' B' := by
  obtain ⟨g, tc, r, y, p, l⟩ := h
  have hA : ∀ i, i = 47 ∨ i = 48 ∨ i = 49 ∨ (54 < i ∧ i < 62) → A' i = A i := fun i hi => f.2.2.2.1 i (by omega) (by omega) (by omega) (by omega) (by omega)
  exact ⟨g.fr f, tc.co (f.2.1 13 (by decide) (by decide)) (f.2.1 15 (by decide) (by decide)) (f.2.1 16 (by decide) (by decide)) (hA 47 (by decide)) (hA 48 (by decide)) (hA 49 (by decide)), by rw [f.2.1 14 (by decide) (by decide)]; exact r, y.co (f.2.1 27 (by decide) (by decide)) (hA 55 (by decide)), p.co (f.2.1 28 (by decide) (by decide)) (hA 56 (by decide)) (hA 57 (by decide)), l.co (f.2.1 31 (by decide) (by decide)) (hA 58 (by decide)) (hA 59 (by decide)) (hA 60 (by decide)) (hA 61 (by decide))⟩
theorem MSd.no (h : MSd K R C lg m sw ea tk se pe us lo rc t tp pn ln tx n ra pl wo ls I A B) (h2 : ∀ p, p ≠ 21 → p ≠ 39 → I' 39 p = I 39 p) : MSd K R C lg m sw ea tk se pe us lo rc t tp pn ln tx n ra pl wo ls I' A B := by
  obtain ⟨g, tc, r, y, p, l⟩ := h
  exact ⟨g.low I A B (fun p hp => h2 p (by omega) (by omega)) (fun _ _ => rfl) rfl (fun _ _ => rfl), tc.co (h2 13 (by decide) (by decide)) (h2 15 (by decide) (by decide)) (h2 16 (by decide) (by decide)) rfl rfl rfl, by rw [h2 14 (by decide) (by decide)]; exact r, y.co (h2 27 (by decide) (by decide)) rfl, p.co (h2 28 (by decide) (by decide)) rfl rfl, l.co (h2 31 (by decide) (by decide)) rfl rfl rfl rfl⟩
theorem MSd.th (h : MSd K R C lg m sw ea tk se pe us lo rc t tp pn ln tx n ra pl wo ls I A B) (x : Int32) : MSd K R C lg m sw ea tk se pe us lo rc t tp pn ln tx n ra pl wo ls (mm_up I 39 39 x) A B := h.no (fun p _ hp => mm_up_ne2 _ _ _ _ _ _ hp)
theorem BSd.next (h : BSd K R C lg m sw ea tk se pe us lo rc t tp pn ln tx n ra pl wo ls c) (hc : c < 10000) : BSd K R C lg m sw ea tk se pe us lo rc t tp pn ln tx n ra pl wo ls (c + 1) := ⟨h.1, h.2.1, h.2.2.1, h.2.2.2.1, h.2.2.2.2.1.next, by omega⟩
end
abbrev vI : Int32 → Option Value := fun v => some (.int v)
abbrev oI : Int32 → Int64 := fun v => v.toInt64
abbrev vJ : Int64 → Option Value := fun v => some (.long v)
abbrev oJ : Int64 → Int64 := fun v => v
abbrev vZ : Bool → Option Value := fun v => some (.int (bi v))
abbrev oZ : Bool → Int64 := fun v => if v = true then 1 else 0
/-- a call of the law: the class by its wrapper, then the reference; they say the same, and the relation holds again -/
def StG {α : Type} (val : α → Option Value) (out : α → Int64) (c e : Nat) (I : Nat → Nat → Int32) (J : Nat → Nat → Int64) (A : Nat → Nat → Int32) (B : Nat → Nat → Int64) (fL : mm_F) (aL : List Value) (fM : mm_F) (aM : List Value) : Prop :=
  ∃ e' kk v I1 J1 A1 B1 I2 J2 A2 B2, kk < 4 ∧ fL aL (65, e, mm_R0, I, J, A, B) = some (.inl (some (.int (i32 kk))), (65, e', mm_R0, I1, J1, A1, B1)) ∧ fM aM (65, e', mm_R0, I1, J1, A1, B1) = some (.inl (val v), (65, e', mm_R0, I2, J2, A2, B2)) ∧ I2 39 39 = i32 kk ∧ (kk = 0 → B2 64 0 = out v) ∧ e' ≤ e + 1 ∧ WR (c + 1) I2 J2 A2 B2
/-- the same without a value -/
def StN (c e : Nat) (I : Nat → Nat → Int32) (J : Nat → Nat → Int64) (A : Nat → Nat → Int32) (B : Nat → Nat → Int64) (fL : mm_F) (aL : List Value) (fM : mm_F) (aM : List Value) : Prop :=
  ∃ e' kk I1 J1 A1 B1 I2 J2 A2 B2, kk < 4 ∧ fL aL (65, e, mm_R0, I, J, A, B) = some (.inl (some (.int (i32 kk))), (65, e', mm_R0, I1, J1, A1, B1)) ∧ fM aM (65, e', mm_R0, I1, J1, A1, B1) = some (.inl none, (65, e', mm_R0, I2, J2, A2, B2)) ∧ I2 39 39 = i32 kk ∧ e' ≤ e + 1 ∧ WR (c + 1) I2 J2 A2 B2
/-- the same without a wrapper -/
def StW (c e : Nat) (I : Nat → Nat → Int32) (J : Nat → Nat → Int64) (A : Nat → Nat → Int32) (B : Nat → Nat → Int64) (fL fM : mm_F) : Prop :=
  ∃ v I1 J1 A1 B1 I2 J2 A2 B2, fL [.ref 0] (65, e, mm_R0, I, J, A, B) = some (.inl (some (.int v)), (65, e, mm_R0, I1, J1, A1, B1)) ∧ fM [.ref 39] (65, e, mm_R0, I1, J1, A1, B1) = some (.inl (some (.int v)), (65, e, mm_R0, I2, J2, A2, B2)) ∧ WR (c + 1) I2 J2 A2 B2
section
variable {K R C : Nat} {lg : Nat → Nat} {m : Nat} {sw : Bool} {ea : Nat} {tk : Bool} {se pe us : Nat → Nat} {lo : Nat} {rc : Bool} {t : Nat} {tp : Nat → Nat} {pn : Nat} {ln : Nat → Nat} {tx : Nat → Nat → Nat} {n : Nat} {ra : Nat → Int} {pl wo ls : Nat → Nat} {K' R' C' : Nat} {lg' : Nat → Nat} {m' : Nat} {sw' : Bool} {ea' : Nat} {tk' : Bool} {se' pe' us' : Nat → Nat} {lo' : Nat} {rc' : Bool} {t' : Nat} {tp' : Nat → Nat} {pn' : Nat} {ln' : Nat → Nat} {tx' : Nat → Nat → Nat} {n' : Nat} {ra' : Nat → Int} {pl' wo' ls' : Nat → Nat} {I I1 : Nat → Nat → Int32} {J J1 : Nat → Nat → Int64} {A A1 : Nat → Nat → Int32} {B B1 : Nat → Nat → Int64} {c e : Nat} {fL fM : mm_F} {aL aM : List Value}
theorem StG.ok {α : Type} {val : α → Option Value} {out : α → Int64} {v : α} (hm : MSd K R C lg m sw ea tk se pe us lo rc t tp pn ln tx n ra pl wo ls I A B) (hL : fL aL (65, e, mm_R0, I, J, A, B) = some (.inl (some (.int (i32 0))), (65, e, mm_R0, I1, J1, A1, mm_up B1 64 0 (out v)))) (c1 : CSd K' R' C' lg' m' sw' ea' tk' se' pe' us' lo' rc' t' tp' pn' ln' tx' n' ra' pl' wo' ls' I1 J1 A1 B1) (f1 : HC I I1 A A1 B B1)
    (hM : ∀ I J A B, MSd K R C lg m sw ea tk se pe us lo rc t tp pn ln tx n ra pl wo ls I A B → ∃ I2 J2 A2 B2, fM aM (65, e, mm_R0, I, J, A, B) = some (.inl (val v), (65, e, mm_R0, I2, J2, A2, B2)) ∧ I2 39 39 = i32 0 ∧ MSd K' R' C' lg' m' sw' ea' tk' se' pe' us' lo' rc' t' tp' pn' ln' tx' n' ra' pl' wo' ls' I2 A2 B2 ∧ HM I I2 J J2 A A2 B B2)
    (b : BSd K' R' C' lg' m' sw' ea' tk' se' pe' us' lo' rc' t' tp' pn' ln' tx' n' ra' pl' wo' ls' (c + 1)) : StG val out c e I J A B fL aL fM aM := by
  obtain ⟨I2, J2, A2, B2, m1, m2, m3, m4⟩ := hM I1 J1 A1 (mm_up B1 64 0 (out v)) (hm.hc (f1.out _))
  have cu : CSd K' R' C' lg' m' sw' ea' tk' se' pe' us' lo' rc' t' tp' pn' ln' tx' n' ra' pl' wo' ls' I1 J1 A1 (mm_up B1 64 0 (out v)) := by
    obtain ⟨g, t1, r, y, p, q, l⟩ := c1
    exact ⟨g.low I1 J1 A1 B1 (fun _ _ => rfl) (fun _ _ => rfl) (fun _ _ => rfl) (fun i hi => mm_up_row _ _ _ _ _ (by omega)), t1, r, y, p, q, l⟩
  exact ⟨e, 0, v, I1, J1, A1, _, I2, J2, A2, B2, by decide, hL, m1, m2, fun _ => by rw [m4.2.2.2.2, mm_up_eq], by omega, ⟨_, _, _, _, _, _, _, _, _, _, _, _, _, _, _, _, _, _, _, _, _, _, _, cu.hm m4, m3, b⟩⟩
theorem StG.no {α : Type} {val : α → Option Value} {out : α → Int64} {v : α} {kk : Nat} {I' : Nat → Nat → Int32} (hc : CSd K R C lg m sw ea tk se pe us lo rc t tp pn ln tx n ra pl wo ls I J A B) (hm : MSd K R C lg m sw ea tk se pe us lo rc t tp pn ln tx n ra pl wo ls I A B) (b : BSd K R C lg m sw ea tk se pe us lo rc t tp pn ln tx n ra pl wo ls (c + 1)) (h4 : kk < 4) (h0 : kk ≠ 0) (hL : fL aL (65, e, mm_R0, I, J, A, B) = some (.inl (some (.int (i32 kk))), (65, e + 1, mm_R0, I, J, A, B))) (hM : fM aM (65, e + 1, mm_R0, I, J, A, B) = some (.inl (val v), (65, e + 1, mm_R0, I', J, A, B))) (h39 : I' 39 39 = i32 kk) (hI : ∀ i, i ≠ 39 → I' i = I i) (h2 : ∀ p, p ≠ 21 → p ≠ 39 → I' 39 p = I 39 p) : StG val out c e I J A B fL aL fM aM :=
  ⟨e + 1, kk, v, I, J, A, B, I', J, A, B, h4, hL, hM, h39, fun z => absurd z h0, Nat.le_refl _, ⟨_, _, _, _, _, _, _, _, _, _, _, _, _, _, _, _, _, _, _, _, _, _, _, hc.hm ⟨fun i hi => hI i (by omega), fun _ _ => rfl, fun _ _ => rfl, fun _ _ => rfl, rfl⟩, hm.no h2, b⟩⟩
theorem StG.no1 {α : Type} {val : α → Option Value} {out : α → Int64} {v : α} {kk : Nat} (hc : CSd K R C lg m sw ea tk se pe us lo rc t tp pn ln tx n ra pl wo ls I J A B) (hm : MSd K R C lg m sw ea tk se pe us lo rc t tp pn ln tx n ra pl wo ls I A B) (b : BSd K R C lg m sw ea tk se pe us lo rc t tp pn ln tx n ra pl wo ls (c + 1)) (h4 : kk < 4) (h0 : kk ≠ 0) (hL : fL aL (65, e, mm_R0, I, J, A, B) = some (.inl (some (.int (i32 kk))), (65, e + 1, mm_R0, I, J, A, B))) (hM : fM aM (65, e + 1, mm_R0, I, J, A, B) = some (.inl (val v), (65, e + 1, mm_R0, mm_up I 39 39 (i32 kk), J, A, B))) : StG val out c e I J A B fL aL fM aM :=
  StG.no hc hm b h4 h0 hL hM (mm_up_eq _ _ _ _) (fun i hi => mm_up_row _ _ _ _ _ hi) (fun p _ hp => mm_up_ne2 _ _ _ _ _ _ hp)
theorem StG.no2 {α : Type} {val : α → Option Value} {out : α → Int64} {v : α} {kk : Nat} {x : Int32} (hc : CSd K R C lg m sw ea tk se pe us lo rc t tp pn ln tx n ra pl wo ls I J A B) (hm : MSd K R C lg m sw ea tk se pe us lo rc t tp pn ln tx n ra pl wo ls I A B) (b : BSd K R C lg m sw ea tk se pe us lo rc t tp pn ln tx n ra pl wo ls (c + 1)) (h4 : kk < 4) (h0 : kk ≠ 0) (hL : fL aL (65, e, mm_R0, I, J, A, B) = some (.inl (some (.int (i32 kk))), (65, e + 1, mm_R0, I, J, A, B))) (hM : fM aM (65, e + 1, mm_R0, I, J, A, B) = some (.inl (val v), (65, e + 1, mm_R0, mm_up (mm_up I 39 39 x) 39 39 (i32 kk), J, A, B))) : StG val out c e I J A B fL aL fM aM :=
  StG.no hc hm b h4 h0 hL hM (mm_up_eq _ _ _ _) (fun i hi => by rw [mm_up_row _ _ _ _ _ hi, mm_up_row _ _ _ _ _ hi]) (fun p _ hp => by rw [mm_up_ne2 _ _ _ _ _ _ hp, mm_up_ne2 _ _ _ _ _ _ hp])
/-- a question that leaves all as it is -/
theorem StG.q {α : Type} {val : α → Option Value} {out : α → Int64} {v : α} (hc : CSd K R C lg m sw ea tk se pe us lo rc t tp pn ln tx n ra pl wo ls I J A B) (hm : MSd K R C lg m sw ea tk se pe us lo rc t tp pn ln tx n ra pl wo ls I A B) (b : BSd K R C lg m sw ea tk se pe us lo rc t tp pn ln tx n ra pl wo ls (c + 1)) (hL : fL aL (65, e, mm_R0, I, J, A, B) = some (.inl (some (.int (i32 0))), (65, e, mm_R0, I, J, A, mm_up B 64 0 (out v)))) (hM : ∀ I J A B, MSd K R C lg m sw ea tk se pe us lo rc t tp pn ln tx n ra pl wo ls I A B → fM aM (65, e, mm_R0, I, J, A, B) = some (.inl (val v), (65, e, mm_R0, mm_up I 39 39 (i32 0), J, A, B))) : StG val out c e I J A B fL aL fM aM :=
  StG.ok hm hL hc HC.rf (fun I J A B h => ⟨_, J, A, B, hM I J A B h, mm_up_eq _ _ _ _, h.th _, HM.th _⟩) b
end
