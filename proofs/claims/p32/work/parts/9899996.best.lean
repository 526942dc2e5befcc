/-! best play, ahead of a move and behind it; how far it is when somebody has joined -/
section
variable {K R C : Nat}
theorem fre_emp (v : bV K R C = true) (s0 s1 : Int64) (c : Nat) : fre (bN K R C) s0 s1 c = mb (emp (bN K R C) s0 s1) c := by
  have hE := emp_EH (bN_le v) s0 s1 c
  unfold fre
  rw [Bool.eq_iff_iff, Bool.and_eq_true, Bool.and_eq_true, Bool.not_eq_true', Bool.not_eq_true', Nat.blt_eq]
  exact ⟨fun h => hE.2 ⟨h.1.1, h.1.2, h.2⟩, fun h => by
    obtain ⟨a, b, d⟩ := hE.1 h
    exact ⟨⟨a, b⟩, d⟩⟩
/-- what a move to c is worth -/
noncomputable def bvV (K R C : Nat) (s0 s1 : Int64) (tu f c : Nat) : Int := bk (Sc K R C f (1 - tu) (pt tu 0 c s0) (pt tu 1 c s1))
abbrev nj (K R C : Nat) (s0 s1 : Int64) : Prop := jnB K R C 0 s0 = false ∧ jnB K R C 1 s1 = false
theorem Sc_tp {s0 s1 : Int64} {tu f : Nat} (h : nj K R C s0 s1) : Sc K R C (f + 1) tu s0 s1 = tp (fre (bN K R C) s0 s1) (bvV K R C s0 s1 tu f) 36 := by
  show (if _ then _ else if _ then _ else _) = _
  rw [if_neg (by rw [h.1]; decide), if_neg (by rw [h.2]; decide)]
  rfl
theorem bv_bd (s0 s1 : Int64) (tu f c : Nat) : -99 ≤ bvV K R C s0 s1 tu f c ∧ bvV K R C s0 s1 tu f c ≤ 99 := by
  have := Sc_bd (K := K) (R := R) (C := C) f (1 - tu) (pt tu 0 c s0) (pt tu 1 c s1)
  exact bk_bd this.1 this.2
theorem Sc_win {s0 s1 : Int64} {tu f : Nat} (h : nj K R C s0 s1) : 0 < Sc K R C (f + 1) tu s0 s1 ↔ ∃ c, c < 36 ∧ fre (bN K R C) s0 s1 c = true ∧ 0 < bvV K R C s0 s1 tu f c := by
  rw [Sc_tp h]
  constructor
  · intro q
    rcases tp_att (p := fre (bN K R C) s0 s1) (v := bvV K R C s0 s1 tu f) (n := 36) with z | ⟨c, c1, c2, c3⟩
    · omega
    · exact ⟨c, c1, c2, by omega⟩
  · rintro ⟨c, c1, c2, c3⟩
    have := tp_ge (v := bvV K R C s0 s1 tu f) c1 c2
    omega
theorem Sc_in {s0 s1 : Int64} {tu f c : Nat} (h : nj K R C s0 s1) (hc : c < 36) (hf : fre (bN K R C) s0 s1 c = true) : -99 ≤ Sc K R C (f + 1) tu s0 s1 ∧ Sc K R C (f + 1) tu s0 s1 ≤ 99 := by
  rw [Sc_tp h]
  have a := tp_ge (v := bvV K R C s0 s1 tu f) hc hf
  have b := bv_bd (K := K) (R := R) (C := C) s0 s1 tu f c
  refine ⟨by omega, tp_le (by decide) (fun c _ _ => (bv_bd s0 s1 tu f c).2)⟩
theorem winM_bit (s0 s1 : Int64) (tu : Nat) : ∀ n k, (winM K R C s0 s1 tu n).testBit k = true ↔ (k < n ∧ 0 < mvV K R C s0 s1 tu k) := by
  intro n
  induction n with
  | zero => intro k; show (0 : Nat).testBit k = true ↔ _; rw [Nat.zero_testBit]; exact ⟨fun z => (by cases z), fun z => absurd z.1 (Nat.not_lt_zero _)⟩
  | succ n ih =>
    intro k
    show (winM K R C s0 s1 tu n ||| (if 0 < mvV K R C s0 s1 tu n then 2 ^ n else 0)).testBit k = true ↔ _
    by_cases q : 0 < mvV K R C s0 s1 tu n
    · rw [if_pos q, tb_ad, Bool.or_eq_true, ih, decide_eq_true_eq]
      constructor
      · rintro (⟨a, b⟩ | a)
        · exact ⟨by omega, b⟩
        · subst a; exact ⟨by omega, q⟩
      · rintro ⟨a, b⟩
        by_cases z : n = k
        · exact Or.inr z
        · exact Or.inl ⟨by omega, b⟩
    · rw [if_neg q, Nat.or_zero, ih]
      constructor
      · rintro ⟨a, b⟩; exact ⟨by omega, b⟩
      · rintro ⟨a, b⟩
        have : k ≠ n := fun z => by subst z; exact q b
        exact ⟨by omega, b⟩
theorem winV_mem (v : bV K R C = true) {s0 s1 : Int64} {tu f : Nat} (h : nj K R C s0 s1) (hf : gn (emp (bN K R C) s0 s1) = f + 1) {c : Nat} (hc : mb (emp (bN K R C) s0 s1) c = true) : mb (winV K R C s0 s1 tu) c = true ↔ 0 < bvV K R C s0 s1 tu f c := by
  unfold winV
  have c36 : c < 36 := by
    have := bN_le v
    have := ((emp_EH (bN_le v) s0 s1 c).1 hc).1
    omega
  have g := gc_of c36 hc
  rw [if_neg (by rw [h.1]; decide), if_neg (by rw [h.2]; decide), spr_mem, winM_bit]
  have e : mvV K R C s0 s1 tu (cf (mb (emp (bN K R C) s0 s1)) c) = bvV K R C s0 s1 tu f c := by
    unfold mvV bvV
    rw [g.2, hf]
    rfl
  rw [e]
  exact ⟨fun z => z.2.2.2, fun z => ⟨c36, hc, g.1, z⟩⟩
theorem winV_sub {s0 s1 : Int64} {tu c : Nat} (hc : mb (winV K R C s0 s1 tu) c = true) : mb (emp (bN K R C) s0 s1) c = true := by
  unfold winV at hc
  split at hc
  · rw [mb_zero] at hc; cases hc
  · split at hc
    · rw [mb_zero] at hc; cases hc
    · exact (spr_mem.1 hc).2.1
/-- there is a win if and only if the one to move wins -/
theorem winV_best (v : bV K R C = true) {s0 s1 : Int64} {tu f : Nat} (ht : tu < 2) (h : nj K R C s0 s1) (hf : gn (emp (bN K R C) s0 s1) = f + 1) : ¬ winV K R C s0 s1 tu = 0 ↔ bestV K R C s0 s1 tu = tu := by
  have a : bestV K R C s0 s1 tu = tu ↔ 0 < Sc K R C (f + 1) tu s0 s1 := by
    unfold bestV
    rw [if_neg (by rw [h.1]; decide), if_neg (by rw [h.2]; decide), hf]
    by_cases q : 0 < Sc K R C (f + 1) tu s0 s1
    · rw [if_pos q]; exact ⟨fun _ => q, fun _ => rfl⟩
    · rw [if_neg q]; exact ⟨fun z => by omega, fun z => absurd z q⟩
  rw [a, Sc_win h]
  constructor
  · intro q
    obtain ⟨c, c1, _⟩ := mb_low_ex q
    have c2 := winV_sub c1
    refine ⟨c, ?_, by rw [fre_emp v]; exact c2, (winV_mem v h hf c2).1 c1⟩
    have := bN_le v
    have := ((emp_EH (bN_le v) s0 s1 c).1 c2).1
    omega
  · rintro ⟨c, c1, c2, c3⟩ z
    rw [fre_emp v] at c2
    have := (winV_mem v h hf (tu := tu) c2).2 c3
    rw [z, mb_zero] at this
    cases this
theorem best_nj {s0 s1 : Int64} {tu f : Nat} (h : nj K R C s0 s1) (hf : gn (emp (bN K R C) s0 s1) = f) : bestV K R C s0 s1 tu = (if 0 < Sc K R C f tu s0 s1 then tu else 1 - tu) ∧ lastV K R C s0 s1 tu = (if 0 < Sc K R C f tu s0 s1 then 100 - Sc K R C f tu s0 s1 else 100 + Sc K R C f tu s0 s1) := by
  have n0 : ¬ jnB K R C 0 s0 = true := by rw [h.1]; decide
  have n1 : ¬ jnB K R C 1 s1 = true := by rw [h.2]; decide
  refine ⟨?_, ?_⟩
  · unfold bestV
    rw [if_neg n0, if_neg n1, hf]
  · unfold lastV
    rw [if_neg n0, if_neg n1, hf]
/-- behind a move -/
theorem best_behind {s0 s1 : Int64} {tu f c : Nat} (ht : tu < 2) (h : nj K R C s0 s1) (f9 : f ≤ 9) (hf : gn (emp (bN K R C) (pt tu 0 c s0) (pt tu 1 c s1)) = f) : (bestV K R C (pt tu 0 c s0) (pt tu 1 c s1) (1 - tu) = tu ↔ 0 < bvV K R C s0 s1 tu f c) ∧ lastV K R C (pt tu 0 c s0) (pt tu 1 c s1) (1 - tu) = (if 0 < bvV K R C s0 s1 tu f c then 99 - bvV K R C s0 s1 tu f c else 99 + bvV K R C s0 s1 tu f c) := by
  obtain ⟨x, hx⟩ : ∃ x, x = Sc K R C f (1 - tu) (pt tu 0 c s0) (pt tu 1 c s1) := ⟨_, rfl⟩
  have hb : bvV K R C s0 s1 tu f c = bk x := by unfold bvV; rw [hx]
  have ab := Sc_abs (K := K) (R := R) (C := C) f (1 - tu) (pt tu 0 c s0) (pt tu 1 c s1)
  rw [← hx] at ab
  by_cases j : nj K R C (pt tu 0 c s0) (pt tu 1 c s1)
  · obtain ⟨b1, b2⟩ := best_nj (tu := 1 - tu) j hf
    rw [b1, b2, hb, ← hx]
    unfold bk
    by_cases q : 0 < x
    · rw [if_pos q, if_pos q, if_pos q]
      constructor
      · constructor <;> intro z <;> omega
      · rw [if_neg (by omega)]; omega
    · rw [if_neg q, if_neg q, if_neg q]
      constructor
      · constructor <;> intro z <;> omega
      · rw [if_pos (by omega)]; omega
  · -- the one who moved has joined
    have hj : x = -100 ∧ bestV K R C (pt tu 0 c s0) (pt tu 1 c s1) (1 - tu) = tu ∧ lastV K R C (pt tu 0 c s0) (pt tu 1 c s1) (1 - tu) = 0 := by
      rcases (show tu = 0 ∨ tu = 1 by omega) with t | t
      · subst t
        have p1 : pt 0 1 c s1 = s1 := by unfold pt; rw [if_neg (by decide)]
        have j0 : jnB K R C 0 (pt 0 0 c s0) = true := by
          cases z : jnB K R C 0 (pt 0 0 c s0) with
          | true => rfl
          | false => exact absurd ⟨z, by rw [p1]; exact h.2⟩ j
        refine ⟨?_, ?_, ?_⟩
        · rw [hx]
          cases f with
          | zero => show (if _ then _ else _) = _; rw [if_pos j0]; rfl
          | succ f => show (if _ then _ else _) = _; rw [if_pos j0]; rfl
        · unfold bestV; rw [if_pos j0]
        · unfold lastV; rw [if_pos j0]
      · subst t
        have p0 : pt 1 0 c s0 = s0 := by unfold pt; rw [if_neg (by decide)]
        have j1 : jnB K R C 1 (pt 1 1 c s1) = true := by
          cases z : jnB K R C 1 (pt 1 1 c s1) with
          | true => rfl
          | false => exact absurd ⟨by rw [p0]; exact h.1, z⟩ j
        have j0 : ¬ jnB K R C 0 (pt 1 0 c s0) = true := by rw [p0, h.1]; decide
        refine ⟨?_, ?_, ?_⟩
        · rw [hx]
          cases f with
          | zero => show (if _ then _ else if _ then _ else _) = _; rw [if_neg j0, if_pos j1]; rfl
          | succ f => show (if _ then _ else if _ then _ else _) = _; rw [if_neg j0, if_pos j1]; rfl
        · unfold bestV; rw [if_neg j0, if_pos j1]
        · unfold lastV; rw [if_neg j0, if_pos j1]
    obtain ⟨h1, h2, h3⟩ := hj
    rw [h2, h3, hb, h1]
    exact ⟨⟨fun _ => by decide, fun _ => rfl⟩, by decide⟩
/-! the fewest and the most, as the law finds them -/
noncomputable def fwV (K R C : Nat) (s0 s1 : Int64) (tu f : Nat) : Nat → Int
  | 0 => 100
  | j + 1 => if mb (emp (bN K R C) s0 s1) j = true ∧ 0 < bvV K R C s0 s1 tu f j ∧ 100 - bvV K R C s0 s1 tu f j < fwV K R C s0 s1 tu f j then 100 - bvV K R C s0 s1 tu f j else fwV K R C s0 s1 tu f j
noncomputable def moV (K R C : Nat) (s0 s1 : Int64) (tu f : Nat) : Nat → Int
  | 0 => 0
  | j + 1 => if mb (emp (bN K R C) s0 s1) j = true ∧ ¬ 0 < bvV K R C s0 s1 tu f j ∧ moV K R C s0 s1 tu f j < 100 + bvV K R C s0 s1 tu f j then 100 + bvV K R C s0 s1 tu f j else moV K R C s0 s1 tu f j
theorem fw_spec (s0 s1 : Int64) (tu f : Nat) : ∀ j, (∀ c, c < j → mb (emp (bN K R C) s0 s1) c = true → 0 < bvV K R C s0 s1 tu f c → fwV K R C s0 s1 tu f j ≤ 100 - bvV K R C s0 s1 tu f c) ∧ (fwV K R C s0 s1 tu f j = 100 ∨ ∃ c, c < j ∧ mb (emp (bN K R C) s0 s1) c = true ∧ fwV K R C s0 s1 tu f j = 100 - bvV K R C s0 s1 tu f c) ∧ 1 ≤ fwV K R C s0 s1 tu f j ∧ fwV K R C s0 s1 tu f j ≤ 100 := by
  intro j
  induction j with
  | zero => exact ⟨fun c hc => absurd hc (Nat.not_lt_zero _), Or.inl rfl, by show (1 : Int) ≤ 100; decide, by show (100 : Int) ≤ 100; decide⟩
  | succ j ih =>
    obtain ⟨i1, i2, i3, i4⟩ := ih
    have bd := bv_bd (K := K) (R := R) (C := C) s0 s1 tu f j
    show _ ∧ _ ∧ _ ∧ _
    unfold fwV
    by_cases q : mb (emp (bN K R C) s0 s1) j = true ∧ 0 < bvV K R C s0 s1 tu f j ∧ 100 - bvV K R C s0 s1 tu f j < fwV K R C s0 s1 tu f j
    · rw [if_pos q]
      refine ⟨fun c hc h1 h2 => ?_, Or.inr ⟨j, by omega, q.1, rfl⟩, by omega, by omega⟩
      by_cases z : c = j
      · subst z; exact Int.le_refl _
      · have := i1 c (by omega) h1 h2
        omega
    · rw [if_neg q]
      refine ⟨fun c hc h1 h2 => ?_, ?_, i3, i4⟩
      · by_cases z : c = j
        · subst z
          by_cases y : 100 - bvV K R C s0 s1 tu f c < fwV K R C s0 s1 tu f c
          · exact absurd ⟨h1, h2, y⟩ q
          · omega
        · exact i1 c (by omega) h1 h2
      · rcases i2 with z | ⟨c, c1, c2⟩
        · exact Or.inl z
        · exact Or.inr ⟨c, by omega, c2⟩
theorem mo_spec (s0 s1 : Int64) (tu f : Nat) : ∀ j, (∀ c, c < j → mb (emp (bN K R C) s0 s1) c = true → ¬ 0 < bvV K R C s0 s1 tu f c → 100 + bvV K R C s0 s1 tu f c ≤ moV K R C s0 s1 tu f j) ∧ (moV K R C s0 s1 tu f j = 0 ∨ ∃ c, c < j ∧ mb (emp (bN K R C) s0 s1) c = true ∧ moV K R C s0 s1 tu f j = 100 + bvV K R C s0 s1 tu f c) ∧ 0 ≤ moV K R C s0 s1 tu f j ∧ moV K R C s0 s1 tu f j ≤ 100 := by
  intro j
  induction j with
  | zero => exact ⟨fun c hc => absurd hc (Nat.not_lt_zero _), Or.inl rfl, by show (0 : Int) ≤ 0; decide, by show (0 : Int) ≤ 100; decide⟩
  | succ j ih =>
    obtain ⟨i1, i2, i3, i4⟩ := ih
    have bd := bv_bd (K := K) (R := R) (C := C) s0 s1 tu f j
    show _ ∧ _ ∧ _ ∧ _
    unfold moV
    by_cases q : mb (emp (bN K R C) s0 s1) j = true ∧ ¬ 0 < bvV K R C s0 s1 tu f j ∧ moV K R C s0 s1 tu f j < 100 + bvV K R C s0 s1 tu f j
    · rw [if_pos q]
      refine ⟨fun c hc h1 h2 => ?_, Or.inr ⟨j, by omega, q.1, rfl⟩, by omega, by omega⟩
      by_cases z : c = j
      · subst z; exact Int.le_refl _
      · have := i1 c (by omega) h1 h2
        omega
    · rw [if_neg q]
      refine ⟨fun c hc h1 h2 => ?_, ?_, i3, i4⟩
      · by_cases z : c = j
        · subst z
          by_cases y : moV K R C s0 s1 tu f c < 100 + bvV K R C s0 s1 tu f c
          · exact absurd ⟨h1, h2, y⟩ q
          · omega
        · exact i1 c (by omega) h1 h2
      · rcases i2 with z | ⟨c, c1, c2⟩
        · exact Or.inl z
        · exact Or.inr ⟨c, by omega, c2⟩
/-- what the law compares at the end -/
theorem last_fm (v : bV K R C = true) {s0 s1 : Int64} {tu f : Nat} (ht : tu < 2) (h : nj K R C s0 s1) (hf : gn (emp (bN K R C) s0 s1) = f + 1) : lastV K R C s0 s1 tu = (if bestV K R C s0 s1 tu = tu then fwV K R C s0 s1 tu f (bN K R C) else moV K R C s0 s1 tu f (bN K R C)) := by
  obtain ⟨b1, b2⟩ := best_nj (tu := tu) h hf
  have tpe := Sc_tp (tu := tu) (f := f) h
  obtain ⟨S, hS⟩ : ∃ S, S = Sc K R C (f + 1) tu s0 s1 := ⟨_, rfl⟩
  rw [← hS] at b1 b2 tpe
  obtain ⟨f1, f2, f3, f4⟩ := fw_spec (K := K) (R := R) (C := C) s0 s1 tu f (bN K R C)
  obtain ⟨m1, m2, m3, m4⟩ := mo_spec (K := K) (R := R) (C := C) s0 s1 tu f (bN K R C)
  have bl := bN_le v
  have ge : ∀ c, mb (emp (bN K R C) s0 s1) c = true → bvV K R C s0 s1 tu f c ≤ S := fun c hc => by
    rw [tpe]
    have := ((emp_EH (bN_le v) s0 s1 c).1 hc).1
    exact tp_ge (by omega) (by rw [fre_emp v]; exact hc)
  obtain ⟨c, c1, c2, c3⟩ : ∃ c, c < bN K R C ∧ mb (emp (bN K R C) s0 s1) c = true ∧ S = bvV K R C s0 s1 tu f c := by
    rcases tp_att (p := fre (bN K R C) s0 s1) (v := bvV K R C s0 s1 tu f) (n := 36) with z | ⟨c, c1, c2, c3⟩
    · -- there is an empty cell
      obtain ⟨k1, k2, _⟩ := gc_spec (E := emp (bN K R C) s0 s1) (k := 0) (by omega)
      have := ge _ k2
      have := (bv_bd (K := K) (R := R) (C := C) s0 s1 tu f (gc (emp (bN K R C) s0 s1) 0)).1
      omega
    · rw [fre_emp v] at c2
      exact ⟨c, ((emp_EH (bN_le v) s0 s1 c).1 c2).1, c2, by rw [tpe]; exact c3⟩
  have bd := bv_bd (K := K) (R := R) (C := C) s0 s1 tu f c
  rw [b1, b2]
  by_cases q : 0 < S
  · rw [if_pos q, if_pos q, if_pos rfl]
    have := f1 c c1 c2 (by omega)
    rcases f2 with z | ⟨d, d1, d2, d3⟩
    · omega
    · have := ge d d2
      omega
  · rw [if_neg q, if_neg q, if_neg (by omega)]
    have := m1 c c1 c2 (by omega)
    rcases m2 with z | ⟨d, d1, d2, d3⟩
    · omega
    · have := ge d d2
      omega
/-- how long it lasts -/
theorem last_bd (v : bV K R C = true) {s0 s1 : Int64} {tu f : Nat} (h : nj K R C s0 s1) (f9 : f ≤ 35) (hf : gn (emp (bN K R C) s0 s1) = f + 1) : 1 ≤ lastV K R C s0 s1 tu ∧ lastV K R C s0 s1 tu ≤ (f : Int) + 1 := by
  obtain ⟨b1, b2⟩ := best_nj (tu := tu) h hf
  obtain ⟨k1, k2, _⟩ := gc_spec (E := emp (bN K R C) s0 s1) (k := 0) (by omega)
  have i := Sc_in (tu := tu) (f := f) h k1 (by rw [fre_emp v]; exact k2)
  have ab := Sc_abs (K := K) (R := R) (C := C) (f + 1) tu s0 s1
  rw [b2]
  split <;> omega
/-! a full board -/
theorem full_joins (v : bV K R C = true) (hx : HexP K R C) {s0 s1 : Int64} (h0 : ∀ c, mb s0 c = true → c < bN K R C) (h1 : ∀ c, mb s1 c = true → c < bN K R C) (hd : ∀ c, mb s0 c = true → mb s1 c = false) (he : gn (emp (bN K R C) s0 s1) = 0) : ¬ nj K R C s0 s1 := by
  rintro ⟨a, b⟩
  have := hx s0 h0
  have e : cplS K R C s0 = s1 := by
    apply mb_ext
    intro c _
    by_cases hc : c < bN K R C
    · rw [mb_cplS v _ hc]
      cases z : mb s0 c with
      | true => rw [hd c z]; rfl
      | false =>
        cases y : mb s1 c with
        | true => rfl
        | false =>
          have bl := bN_le v
          have m := (emp_EH (bN_le v) s0 s1 c).2 ⟨hc, z, y⟩
          have := cf_one (p := mb (emp (bN K R C) s0 s1)) (n := 36) (by omega : c < 36) m
          have : gn (emp (bN K R C) s0 s1) = cf (mb (emp (bN K R C) s0 s1)) 36 := rfl
          omega
    · rw [bool_f (fun z => hc (cplS_lt v _ c z)), bool_f (fun z => hc (h1 c z))]
  have this : jnB K R C 0 s0 = !jnB K R C 1 (cplS K R C s0) := this
  rw [e, a, b] at this
  cases this
/-- where player 1 has joined, player 0 can't -/
theorem no_join0 (v : bV K R C = true) (hx : HexP K R C) {s1 w : Int64} (h1 : ∀ c, mb s1 c = true → c < bN K R C) (hw : ∀ c, c < bN K R C → mb w c = !mb s1 c) (hwl : ∀ c, mb w c = true → c < bN K R C) (j : jnB K R C 1 s1 = true) : jnB K R C 0 w = false := by
  have := hx w hwl
  have e : cplS K R C w = s1 := by
    apply mb_ext
    intro c _
    by_cases hc : c < bN K R C
    · rw [mb_cplS v _ hc, hw c hc, Bool.not_not]
    · rw [bool_f (fun z => hc (cplS_lt v _ c z)), bool_f (fun z => hc (h1 c z))]
  have this : jnB K R C 0 w = !jnB K R C 1 (cplS K R C w) := this
  rw [e, j] at this
  exact this
end
