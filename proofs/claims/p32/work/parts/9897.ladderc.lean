/-! ladder: class -/
abbrev LC (n : Nat) (ra : Nat → Int) (pl wo ls : Nat → Nat) (I : Nat → Nat → Int32) (A : Nat → Nat → Int32) : Prop := I 34 4 = i32 n ∧ n ≤ 10 ∧ (∀ p, p < n → A 35 p = si (ra p) ∧ A 36 p = i32 (pl p)) ∧ (∀ p, p < 10 → A 37 p = i32 (wo p) ∧ A 38 p = i32 (ls p))
abbrev LM (n : Nat) (ra : Nat → Int) (pl wo ls : Nat → Nat) (I : Nat → Nat → Int32) (A : Nat → Nat → Int32) : Prop := I 39 31 = i32 n ∧ n ≤ 10 ∧ (∀ p, p < n → A 58 p = si (ra p) ∧ A 59 p = i32 (pl p)) ∧ (∀ p, p < n → A 60 p = i32 (wo p) ∧ A 61 p = i32 (ls p))
abbrev LB (n : Nat) (ra : Nat → Int) (pl wo ls : Nat → Nat) (c : Nat) : Prop := (∀ p, p < n → 1000 - 31 * (c : Int) ≤ ra p ∧ ra p ≤ 1000 + 31 * (c : Int) ∧ pl p ≤ 100 + c) ∧ (∀ p, n ≤ p → wo p = 0 ∧ ls p = 0)
def chg (d : Int) : Int := if 16 - d / 25 < 1 then 1 else if 31 < 16 - d / 25 then 31 else 16 - d / 25
def raV (ra : Nat → Int) (w l : Nat) : Nat → Int := fun q => if q = w then ra w + chg (ra w - ra l) else if q = l then ra l - chg (ra w - ra l) else ra q
def plcV (pl : Nat → Nat) (w l : Nat) : Nat → Nat := fun q => if pl l < pl w then (if q = w then pl l else if pl l ≤ pl q ∧ pl q < pl w then pl q + 1 else pl q) else pl q
theorem chg_rg (d : Int) : 1 ≤ chg d ∧ chg d ≤ 31 := by
  unfold chg
  split
  · omega
  · split <;> omega
theorem LB.next {n : Nat} {ra : Nat → Int} {pl wo ls : Nat → Nat} {c : Nat} (h : LB n ra pl wo ls c) : LB n ra pl wo ls (c + 1) := ⟨fun p hp => by have := h.1 p hp; omega, h.2⟩
theorem LB.rec {n : Nat} {ra : Nat → Int} {pl wo ls : Nat → Nat} {c : Nat} (h : LB n ra pl wo ls c) {w l : Nat} (hw : w < n) (hl : l < n) : LB n (raV ra w l) (plcV pl w l) (upN wo w (wo w + 1)) (upN ls l (ls l + 1)) (c + 1) := by
  have hc := chg_rg (ra w - ra l)
  have aw := h.1 w hw
  have al := h.1 l hl
  refine ⟨fun p hp => ?_, fun p hp => ?_⟩
  · have a := h.1 p hp
    unfold raV plcV
    generalize chg (ra w - ra l) = g at hc ⊢
    refine ⟨?_, ?_, ?_⟩
    · split
      · omega
      · split <;> omega
    · split
      · omega
      · split <;> omega
    · split
      · split
        · omega
        · split <;> omega
      · omega
  · unfold upN
    rw [if_neg (by omega), if_neg (by omega)]
    exact h.2 p hp
theorem LB.add {n : Nat} {ra : Nat → Int} {pl wo ls : Nat → Nat} {c : Nat} (h : LB n ra pl wo ls c) (hn : n ≤ 10) : LB (n + 1) (fun q => if q = n then 1000 else ra q) (upN pl n n) wo ls (c + 1) := by
  refine ⟨fun p hp => ?_, fun p hp => h.2 p (by omega)⟩
  unfold upN
  dsimp only
  by_cases q : p = n
  · rw [if_pos q, if_pos q]; omega
  · rw [if_neg q, if_neg q]
    have := h.1 p (by omega)
    omega
theorem si_neg (x : Int) : -(si x) = si (-x) := (Int32.ofInt_neg x).symm
theorem si_mul (x y : Int) : si x * si y = si (x * y) := (Int32.ofInt_mul x y).symm
theorem si_rng {x : Int} (h1 : -1000000000 ≤ x) (h2 : x ≤ 1000000000) : (si x).toInt = x := Int32.toInt_ofInt_of_le (by omega) (by omega)
theorem si_ltr {x y : Int} (h1 : -1000000000 ≤ x) (h2 : x ≤ 1000000000) (h3 : -1000000000 ≤ y) (h4 : y ≤ 1000000000) : si x < si y ↔ x < y := by
  rw [Int32.lt_iff_toInt_lt, si_rng h1 h2, si_rng h3 h4]
theorem si_eqr {x y : Int} (h1 : -1000000000 ≤ x) (h2 : x ≤ 1000000000) (h3 : -1000000000 ≤ y) (h4 : y ≤ 1000000000) : si x = si y ↔ x = y := by
  rw [← Int32.toInt_inj, si_rng h1 h2, si_rng h3 h4]
theorem tdiv25 (d : Int) : d.tdiv 25 = if d < 0 then -((-d) / 25) else d / 25 := by
  by_cases q : d < 0
  · rw [if_pos q]
    have : d = -(-d) := by omega
    conv => lhs; rw [this]
    rw [Int.neg_tdiv, Int.tdiv_eq_ediv_of_nonneg (by omega)]
  · rw [if_neg q, Int.tdiv_eq_ediv_of_nonneg (by omega)]
theorem si_d25 {d : Int} (h1 : -1000000 ≤ d) (h2 : d ≤ 1000000) : si d / (25 : Int32) = si (if d < 0 then -((-d) / 25) else d / 25) := by
  apply Int32.toInt_inj.1
  rw [Int32.toInt_div, si_rng (by omega) (by omega), show (25 : Int32).toInt = 25 from rfl, tdiv25]
  rw [si_rng (by split <;> omega) (by split <;> omega)]
  rw [Int.bmod_eq_of_le (by split <;> omega) (by split <;> omega)]
theorem xor25 (x : Int32) : (x ^^^ (25 : Int32)) < 0 ↔ x < 0 := by
  have h1 : (x ^^^ (25 : Int32)).toBitVec.msb = x.toBitVec.msb := by
    rw [Int32.toBitVec_xor, BitVec.msb_xor, show (25 : Int32).toBitVec.msb = false by decide, Bool.xor_false]
  rw [BitVec.msb_eq_toInt, BitVec.msb_eq_toInt] at h1
  have h2 : (x ^^^ (25 : Int32)).toInt < 0 ↔ x.toInt < 0 := by
    have := decide_eq_decide.1 h1
    exact this
  rw [Int32.lt_iff_toInt_lt, Int32.lt_iff_toInt_lt]
  exact h2
theorem sp_floorDiv (S : mm_S) {d : Int} (h1 : -1000000 ≤ d) (h2 : d ≤ 1000000) : f_J9_floorDiv_7cf53 [.int (si d), .int (25 : Int32)] S = some (.inl (some (.int (si (d / 25)))), S) := by
  rw [en_J9_floorDiv_7cf53, sg_J9_floorDiv_7cf53_0, if_neg (show ¬ (25 : Int32) = 0 by decide), sg_J9_floorDiv_7cf53_21, si_d25 h1 h2]
  by_cases q : d < 0
  · rw [if_pos ((xor25 _).2 (by rw [show (0 : Int32) = si 0 from rfl, si_ltr (by omega) (by omega) (by decide) (by decide)]; exact q)), if_pos q, show (25 : Int32) = si 25 from rfl, si_mul]
    by_cases y : -((-d) / 25) * 25 = d
    · rw [y, if_pos rfl, show -((-d) / 25) = d / 25 by omega]
    · rw [if_neg (by rw [si_eqr (by omega) (by omega) (by omega) (by omega)]; exact y), show (1 : Int32) = si 1 from rfl, si_sub, show -((-d) / 25) - 1 = d / 25 by omega]
  · rw [if_neg (fun z => q (by
      have := (xor25 _).1 z
      rw [show (0 : Int32) = si 0 from rfl, si_ltr (by omega) (by omega) (by decide) (by decide)] at this
      exact this)), if_neg q]
theorem rg_cell {n : Nat} (hn : n ≤ 36) (x : Int32) : rgP x 0 (i32 n - 1) = cellP n x := by
  rcases i32_cases x with q | ⟨a, a1, a2⟩
  · unfold rgP cellP
    rw [decide_eq_true (show x < 0 from q), decide_eq_true q]; rfl
  · rw [a2]
    by_cases z : n = 0
    · subst z
      unfold rgP cellP
      rw [show i32 0 - 1 = iN from rfl, decide_eq_true ((iN_lt (a := a) a1).2 trivial), decide_eq_false (show ¬ i32 a < i32 0 by rw [i32_lt a1 (by decide)]; omega), Bool.not_true, Bool.and_false, Bool.and_false]
    · rw [show (1 : Int32) = i32 1 from rfl, i32_sub (by omega)]
      show rgP (i32 a) (i32 0) (i32 (n - 1)) = _
      rw [rg_ok (by decide) (by omega) a1, decide_eq_true (Nat.zero_le _), Bool.true_and, cellP_i hn a1]
      by_cases y : a < n
      · rw [decide_eq_true y, decide_eq_true (by omega)]
      · rw [decide_eq_false y, decide_eq_false (by omega)]
section
variable {K R C : Nat} {lg : Nat → Nat} {m : Nat} {sw : Bool} {n : Nat} {ra : Nat → Int} {pl wo ls : Nat → Nat} (e : Nat) (I : Nat → Nat → Int32) (J : Nat → Nat → Int64) (A : Nat → Nat → Int32) (B : Nat → Nat → Int64)
theorem sp_hasPerson (h : I 34 4 = i32 n) (hn : n ≤ 10) (x : Int32) : f_X3_hasPerson [.ref 34, .int x] (79, e, mm_R0, I, J, A, B) = some (.inl (some (.int (bi (cellP n x)))), (79, e, mm_R0, I, J, A, B)) := by
  rw [en_X3_hasPerson, sg_X3_hasPerson_0, h, sg_X3_hasPerson_22]
  rcases i32_cases x with q | ⟨a, a1, a2⟩
  · rw [if_pos (show x < 0 from q), sg_X3_hasPerson_23, if_pos (Or.inl rfl)]
    unfold cellP
    rw [decide_eq_true q]; rfl
  · rw [a2, cellP_i (by omega) a1, if_neg (show ¬ i32 a < (0 : Int32) by rw [show (0 : Int32) = i32 0 from rfl, i32_lt a1 (by decide)]; omega)]
    by_cases y : a < n
    · rw [if_pos ((i32_lt a1 (by omega)).2 y), if_pos (show i32 a < (10 : Int32) from (i32_lt (b := 10) a1 (by decide)).2 (by omega)), sg_X3_hasPerson_23, if_pos (Or.inr rfl), decide_eq_true y]; rfl
    · rw [if_neg (fun z => y ((i32_lt a1 (by omega)).1 z)), sg_X3_hasPerson_23, if_pos (Or.inl rfl), decide_eq_false y]; rfl
theorem sp_climb (h : I 34 4 = i32 n) (hn : n ≤ 10) (hA : ∀ p, p < n → A 36 p = i32 (pl p)) (hb : ∀ p, p < n → pl p ≤ 1000000) {w l : Nat} (hw : w < n) (hl : l < n) : ∃ A', f_X3_climb [.ref 34, .int (i32 w), .int (i32 (pl l))] (79, e, mm_R0, I, J, A, B) = some (.inl none, (79, e, mm_R0, I, J, A', B)) ∧ (∀ p, p < n → A' 36 p = i32 (plcV pl w l p)) ∧ (∀ i, i ≠ 36 → A' i = A i) := by
  have cin : ∀ {a : Nat}, a < n → (0 ≤ (i32 a).toInt ∧ (i32 a).toInt < 10) := fun {a} ha => (i32_in (by omega)).2 (by omega)
  have ix : ∀ {a : Nat}, a < n → (i32 a).toInt.toNat = a := fun {a} ha => i32_ix (by omega)
  have bw := hb w hw
  have bl := hb l hl
  have has := sp_hasPerson e I J A B h hn (i32 w)
  rw [cellP_i (by omega) (by omega), decide_eq_true hw] at has
  rw [en_X3_climb, sg_X3_climb_0, has, mm_aft_v, sg_X3_climb_5, if_neg (show ¬ bi true = 0 by decide), if_pos (cin hw), ix hw, hA w hw]
  by_cases c : pl w < pl l
  · refine ⟨A, ?_, fun p hp => ?_, fun _ _ => rfl⟩
    · rw [if_pos ((i32_lt (by omega) (by omega)).2 c), sg_X3_climb_18]
    · unfold plcV
      rw [if_neg (by omega)]
      exact hA p hp
  · have L : ∀ (dd i : Nat) (A1 : Nat → Nat → Int32), i + dd = n → (∀ p, p < n → A1 36 p = i32 (if p < i then (if pl l ≤ pl p ∧ pl p < pl w then pl p + 1 else pl p) else pl p)) → (∀ i, i ≠ 36 → A1 i = A i) → ∃ A', mm_run (mm_pr tb_X3_climb) (29, [some (.ref 34), some (.int (i32 w)), some (.int (i32 (pl l))), some (.int (i32 (pl w))), some (.int (i32 i))], [], (79, e, mm_R0, I, J, A1, B)) = some (.inl none, (79, e, mm_R0, I, J, A', B)) ∧ (∀ p, p < n → A' 36 p = i32 (if p = w then pl l else if pl l ≤ pl p ∧ pl p < pl w then pl p + 1 else pl p)) ∧ (∀ i, i ≠ 36 → A' i = A i) := by
      intro dd
      induction dd with
      | zero =>
        intro i A1 hi h1 h2
        refine ⟨mm_up A1 36 w (i32 (pl l)), ?_, fun p hp => ?_, fun j hj => by rw [mm_up_row _ _ _ _ _ hj]; exact h2 j hj⟩
        · rw [sg_X3_climb_29, h, if_neg (by rw [i32_lt (by omega) (by omega)]; omega), sg_X3_climb_88, if_pos (cin hw), ix hw]
        · by_cases y : p = w
          · subst y; rw [mm_up_eq, if_pos rfl]
          · rw [mm_up_ne2 _ _ _ _ _ _ y, if_neg y, h1 p hp, if_pos (by omega)]
      | succ dd ih =>
        intro i A1 hi h1 h2
        have hin : i < n := by omega
        have bi' := hb i hin
        have a1 := h1 i hin
        rw [if_neg (Nat.lt_irrefl _)] at a1
        obtain ⟨A', k1, k2⟩ := ih (i + 1) (mm_up A1 36 i (i32 (if pl l ≤ pl i ∧ pl i < pl w then pl i + 1 else pl i))) (by omega) (fun p hp => by
          by_cases y : p = i
          · subst y; rw [mm_up_eq, if_pos (show p < p + 1 by omega)]
          · rw [mm_up_ne2 _ _ _ _ _ _ y, h1 p hp]
            by_cases x : p < i
            · rw [if_pos x, if_pos (show p < i + 1 by omega)]
            · rw [if_neg x, if_neg (show ¬ p < i + 1 by omega)]) (fun j hj => by rw [mm_up_row _ _ _ _ _ hj]; exact h2 j hj)
        refine ⟨A', ?_, k2⟩
        rw [← k1, sg_X3_climb_29, h, if_pos ((i32_lt (by omega) (by omega)).2 hin), if_pos (show i32 i < (10 : Int32) from (i32_lt (b := 10) (by omega) (by decide)).2 (by omega)), if_pos (cin hin), if_pos (cin hin), ix hin, a1]
        by_cases y : pl i < pl l
        · rw [if_pos ((i32_lt (by omega) (by omega)).2 y), sg_X3_climb_79, sg_X3_climb_80, if_pos (cin hin), ix hin, if_neg (show ¬ (pl l ≤ pl i ∧ pl i < pl w) by omega)]
          simp only [i32_l]
          rw [i32_add, i32_add]
          rfl
        · rw [if_neg (fun z => y ((i32_lt (by omega) (by omega)).1 z)), if_pos (cin hin)]
          by_cases x : pl i < pl w
          · rw [if_pos ((i32_lt (by omega) (by omega)).2 x), sg_X3_climb_80, if_pos (cin hin), ix hin, if_pos (show pl l ≤ pl i ∧ pl i < pl w by omega)]
            simp only [i32_l]
            rw [i32_add, i32_add]
          · rw [if_neg (fun z => x ((i32_lt (by omega) (by omega)).1 z)), sg_X3_climb_79, sg_X3_climb_80, if_pos (cin hin), ix hin, if_neg (show ¬ (pl l ≤ pl i ∧ pl i < pl w) by omega)]
            simp only [i32_l]
            rw [i32_add, i32_add]
            rfl
    obtain ⟨A', k1, k2, k3⟩ := L n 0 A (by omega) (fun p hp => by rw [if_neg (Nat.not_lt_zero _)]; exact hA p hp) (fun _ _ => rfl)
    refine ⟨A', ?_, fun p hp => ?_, k3⟩
    · rw [if_neg (fun z => c ((i32_lt (by omega) (by omega)).1 z)), if_pos (cin hw)]
      exact k1
    · rw [k2 p hp]
      unfold plcV
      by_cases y : pl l < pl w
      · rw [if_pos y]
      · rw [if_neg y]
        by_cases x : p = w
        · rw [if_pos x, x]; congr 1; omega
        · rw [if_neg x, if_neg (show ¬ (pl l ≤ pl p ∧ pl p < pl w) by omega)]
theorem sp_enter (h : LC n ra pl wo ls I A) {c : Nat} (hb : LB n ra pl wo ls c) (hc : c ≤ 10000) {w l : Nat} (hw : w < n) (hl : l < n) (hwl : w ≠ l) : ∃ A', f_X3_enter [.ref 34, .int (i32 w), .int (i32 l)] (79, e, mm_R0, I, J, A, B) = some (.inl (some (.int (si (raV ra w l w)))), (79, e, mm_R0, I, J, A', B)) ∧ LC n (raV ra w l) (plcV pl w l) (upN wo w (wo w + 1)) (upN ls l (ls l + 1)) I A' ∧ (∀ i, i ≠ 35 → i ≠ 36 → i ≠ 37 → i ≠ 38 → A' i = A i) := by
  obtain ⟨h1, h2, h3, h4⟩ := h
  have cin : ∀ {a : Nat}, a < n → (0 ≤ (i32 a).toInt ∧ (i32 a).toInt < 10) := fun {a} ha => (i32_in (by omega)).2 (by omega)
  have ix : ∀ {a : Nat}, a < n → (i32 a).toInt.toNat = a := fun {a} ha => i32_ix (by omega)
  have bw := hb.1 w hw
  have bl := hb.1 l hl
  have rg := chg_rg (ra w - ra l)
  have hasw := sp_hasPerson e I J A B h1 h2 (i32 w)
  rw [cellP_i (by omega) (by omega), decide_eq_true hw] at hasw
  have hasl := sp_hasPerson e I J A B h1 h2 (i32 l)
  rw [cellP_i (by omega) (by omega), decide_eq_true hl] at hasl
  have cg : ∀ y : Int, y = ra w - ra l → (if si 1 < (if si (16 - y / 25) < si 31 then si (16 - y / 25) else si 31) then (if si (16 - y / 25) < si 31 then si (16 - y / 25) else si 31) else si 1) = si (chg y) := by
    intro y hy
    unfold chg
    by_cases q : 16 - y / 25 < 31
    · rw [if_pos ((si_ltr (by omega) (by omega) (by decide) (by decide)).2 q)]
      by_cases q2 : 1 < 16 - y / 25
      · rw [if_pos ((si_ltr (by decide) (by decide) (by omega) (by omega)).2 q2), if_neg (by omega), if_neg (by omega)]
      · rw [if_neg (fun z => q2 ((si_ltr (by decide) (by decide) (by omega) (by omega)).1 z))]
        by_cases q3 : 16 - y / 25 < 1
        · rw [if_pos q3]
        · rw [if_neg q3, if_neg (by omega), show 16 - y / 25 = 1 by omega]
    · rw [if_neg (fun z => q ((si_ltr (by omega) (by omega) (by decide) (by decide)).1 z)), if_pos (by decide), if_neg (by omega)]
      by_cases q3 : 31 < 16 - y / 25
      · rw [if_pos q3]
      · rw [if_neg q3, show 16 - y / 25 = 31 by omega]
  have cg := cg _ rfl
  obtain ⟨A1, hA1⟩ : ∃ A1, A1 = mm_up (mm_up (mm_up (mm_up A 35 w (si (ra w) + si (chg (ra w - ra l)))) 35 l (si (ra l) - si (chg (ra w - ra l)))) 37 w (i32 (wo w + 1))) 38 l (i32 (ls l + 1)) := ⟨_, rfl⟩
  have a36 : ∀ p, p < n → A1 36 p = i32 (pl p) := fun p hp => by
    rw [hA1, mm_up_ne1 _ _ _ _ _ _ (by decide), mm_up_ne1 _ _ _ _ _ _ (by decide), mm_up_ne1 _ _ _ _ _ _ (by decide), mm_up_ne1 _ _ _ _ _ _ (by decide)]
    exact (h3 p hp).2
  obtain ⟨A2, b1, b2, b3⟩ := sp_climb e I J A1 B h1 h2 a36 (fun p hp => by have := (hb.1 p hp).2.2; omega) hw hl
  have r35 : ∀ p, p < n → A2 35 p = si (raV ra w l p) := fun p hp => by
    rw [b3 35 (by decide), hA1, mm_up_ne1 _ _ _ _ _ _ (by decide), mm_up_ne1 _ _ _ _ _ _ (by decide)]
    unfold raV
    by_cases y : p = l
    · subst y
      rw [mm_up_eq, if_neg (fun z => hwl z.symm), if_pos rfl, si_sub]
    · rw [mm_up_ne2 _ _ _ _ _ _ y]
      by_cases x : p = w
      · subst x; rw [mm_up_eq, if_pos rfl, si_add]
      · rw [mm_up_ne2 _ _ _ _ _ _ x, if_neg x, if_neg y]
        exact (h3 p hp).1
  refine ⟨A2, ?_, ⟨h1, h2, fun p hp => ⟨r35 p hp, b2 p hp⟩, fun p hp => ?_⟩, fun i i1 i2 i3 i4 => ?_⟩
  · rw [en_X3_enter, sg_X3_enter_0, hasw, mm_aft_v, sg_X3_enter_5, if_neg (show ¬ bi true = 0 by decide), hasl, mm_aft_v, sg_X3_enter_13, if_neg (show ¬ bi true = 0 by decide), if_pos (cin hw), if_pos (cin hl), ix hw, ix hl, (h3 w hw).1, (h3 l hl).1, si_sub, sp_floorDiv _ (by omega) (by omega), mm_aft_v, sg_X3_enter_43, show (16 : Int32) = si 16 from rfl, show (31 : Int32) = si 31 from rfl, show (1 : Int32) = si 1 from rfl, si_sub, sp_min, mm_aft_v, sg_X3_enter_47, sp_max, mm_aft_v, cg, sg_X3_enter_50]
    rw [if_pos (cin hw), if_pos (cin hw), if_pos (cin hl), if_pos (cin hl), if_pos (cin hw), if_pos (cin hw), if_pos (cin hl), if_pos (cin hl), if_pos (cin hl), ix hw, ix hl, mm_up_ne2 _ _ _ _ _ _ (fun z => hwl z.symm), (h3 w hw).1, (h3 l hl).1, (h3 l hl).2, (h4 w (by omega)).1, (h4 l (by omega)).2]
    simp only [i32_l]
    rw [i32_add, i32_add, ← hA1, b1, mm_aft_n, sg_X3_enter_105, if_pos (cin hw), ix hw, r35 w hw]
  · rw [b3 37 (by decide), b3 38 (by decide), hA1, mm_up_ne1 _ _ _ _ _ _ (by decide)]
    have g := h4 p hp
    unfold upN
    refine ⟨?_, ?_⟩
    · by_cases y : p = w
      · subst y; rw [mm_up_eq, if_pos rfl]
      · rw [mm_up_ne2 _ _ _ _ _ _ y, mm_up_ne1 _ _ _ _ _ _ (by decide), mm_up_ne1 _ _ _ _ _ _ (by decide), if_neg y]; exact g.1
    · by_cases y : p = l
      · subst y; rw [mm_up_eq, if_pos rfl]
      · rw [mm_up_ne2 _ _ _ _ _ _ y, mm_up_ne1 _ _ _ _ _ _ (by decide), mm_up_ne1 _ _ _ _ _ _ (by decide), mm_up_ne1 _ _ _ _ _ _ (by decide), if_neg y]; exact g.2
  · rw [b3 i i2, hA1, mm_up_row _ _ _ _ _ i4, mm_up_row _ _ _ _ _ i3, mm_up_row _ _ _ _ _ i1, mm_up_row _ _ _ _ _ i1]
end
