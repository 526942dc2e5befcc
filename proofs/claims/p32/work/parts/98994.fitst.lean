/-! patterns: how they fit, class, by their texts -/
abbrev PC (pn : Nat) (ln : Nat → Nat) (tx : Nat → Nat → Nat) (I : Nat → Nat → Int32) (A : Nat → Nat → Int32) : Prop := I 24 7 = i32 pn ∧ pn ≤ 6 ∧ (∀ p, p < pn → A 27 p = i32 (ln p) ∧ ∀ i, i < ln p → A 26 (30 * p + i) = i32 (tx p i))
theorem emp_fit {K R C : Nat} (v : bV K R C = true) {s0 s1 : Int64} {c : Nat} (hc : c < bN K R C) : mb (emp (bN K R C) s0 s1) c = !(mb s0 c || mb s1 c) := by
  have hE := emp_EH (bN_le v) s0 s1 c
  cases q : (mb s0 c || mb s1 c) with
  | true =>
    refine bool_f (fun z => ?_)
    obtain ⟨_, z1, z2⟩ := hE.1 z
    rw [z1, z2] at q
    cases q
  | false =>
    rw [Bool.or_eq_false_iff] at q
    exact hE.2 ⟨hc, q.1, q.2⟩
section
variable {K R C : Nat} {lg : Nat → Nat} {m : Nat} {sw : Bool} {pn : Nat} {ln : Nat → Nat} {tx : Nat → Nat → Nat} (e : Nat) (I : Nat → Nat → Int32) (J : Nat → Nat → Int64) (A : Nat → Nat → Int32) (B : Nat → Nat → Int64)
theorem sp_hasPattern (h : I 24 7 = i32 pn) (hn : pn ≤ 6) (x : Int32) : f_X5_hasPattern [.ref 24, .int x] (79, e, mm_R0, I, J, A, B) = some (.inl (some (.int (bi (cellP pn x)))), (79, e, mm_R0, I, J, A, B)) := by
  rw [en_X5_hasPattern, sg_X5_hasPattern_0, h, sg_X5_hasPattern_22]
  rcases i32_cases x with q | ⟨a, a1, a2⟩
  · rw [if_pos (show x < 0 from q), sg_X5_hasPattern_23, if_pos (Or.inl rfl)]
    unfold cellP
    rw [decide_eq_true q]; rfl
  · rw [a2, cellP_i (by omega) a1, if_neg (show ¬ i32 a < (0 : Int32) by rw [show (0 : Int32) = i32 0 from rfl, i32_lt a1 (by decide)]; omega)]
    by_cases y : a < pn
    · rw [if_pos ((i32_lt a1 (by omega)).2 y), if_pos (show i32 a < (6 : Int32) from (i32_lt (b := 6) a1 (by decide)).2 (by omega)), sg_X5_hasPattern_23, if_pos (Or.inr rfl), decide_eq_true y]; rfl
    · rw [if_neg (fun z => y ((i32_lt a1 (by omega)).1 z)), sg_X5_hasPattern_23, if_pos (Or.inl rfl), decide_eq_false y]; rfl
theorem sp_thing (S : mm_S) (v : bV K R C = true) {cl d : Nat} (hcl : cl < bN K R C) (hd : d < 6) (own oth : Int64) : f_X5_thing [.int (bNx K R C cl d), .long own, .long oth] S = some (.inl (some (.int (i32 (thV K R C own oth cl d)))), S) := by
  have hN := bN_le v
  unfold thV
  rw [en_X5_thing, sg_X5_thing_0]
  rcases b_nxc v hcl hd with q | ⟨x, x1, x2⟩
  · rw [if_pos (show bNx K R C cl d = (-1 : Int32) from q), if_pos q, sg_X5_thing_35]; rfl
  · rw [x1, if_neg (show ¬ i32 x = (-1 : Int32) from fun z => (iN_ne (a := x) (by omega)).1 z), if_neg (fun z => (iN_ne (a := x) (by omega)).1 z), i32_ix (by omega), sp_has _ _ (by omega), mm_aft_v, sg_X5_thing_15]
    cases y1 : mb own x with
    | true => rw [if_neg (show ¬ bi true = 0 by decide), if_pos rfl, sg_X5_thing_35]; rfl
    | false =>
      rw [if_pos (show bi false = 0 from rfl), if_neg (show ¬ false = true by decide), sp_has _ _ (by omega), mm_aft_v, sg_X5_thing_27]
      cases y2 : mb oth x with
      | true => rw [if_neg (show ¬ bi true = 0 by decide), if_pos rfl, sg_X5_thing_35]; rfl
      | false => rw [if_pos (show bi false = 0 from rfl), if_neg (show ¬ false = true by decide), sg_X5_thing_35]; rfl
theorem thV_le (own oth : Int64) (cl d : Nat) : thV K R C own oth cl d ≤ 8 := by
  unfold thV
  split
  · omega
  · split
    · omega
    · split <;> omega
theorem sp_textTurned (h : CB K R C I J A B) (own oth : Int64) {t : Nat → Nat} {s u q cl : Nat} (hu : u < 6) (hq : q + 6 ≤ 180) (hcl : cl < bN K R C) (ht : ∀ i, i < 6 → tol (t (s + i)) = true) (hA : ∀ i, i < 6 → A 26 (q + i) = i32 (t (s + i))) : f_X5_textFitsTurned [.ref 24, .int (i32 q), .int (i32 u), .int (i32 cl), .long own, .long oth] (79, e, mm_R0, I, J, A, B) = some (.inl (some (.int (bi (fitT t (thV K R C own oth cl) s u)))), (79, e, mm_R0, I, J, A, B)) := by
  have hN := bN_le h.v
  unfold fitT
  obtain ⟨F, hF⟩ : ∃ F : Nat → Bool, F = (fun i => !decide (men (t (s + i)) &&& thV K R C own oth cl ((i + u) % 6) = 0)) := ⟨_, rfl⟩
  rw [← hF]
  have L : ∀ (dd i : Nat) (o9 : Option Value), i + dd = 6 → alB F i = true → mm_run (mm_pr tb_X5_textFitsTurned) (3, [some (.ref 24), some (.int (i32 q)), some (.int (i32 u)), some (.int (i32 cl)), some (.long own), none, some (.long oth), none, some (.int (i32 i)), o9], [], (79, e, mm_R0, I, J, A, B)) = some (.inl (some (.int (bi (alB F 6)))), (79, e, mm_R0, I, J, A, B)) := by
    intro dd
    induction dd with
    | zero =>
      intro i o9 hi ha
      have : i = 6 := by omega
      subst this
      rw [sg_X5_textFitsTurned_3, if_neg (show ¬ i32 6 < (6 : Int32) by decide), ha]; rfl
    | succ dd ih =>
      intro i o9 hi ha
      have un : alB F (i + 1) = (alB F i && F i) := rfl
      have un2 : F i = !decide (men (t (s + i)) &&& thV K R C own oth cl ((i + u) % 6) = 0) := by rw [hF]
      have md : (i + u) % 6 < 6 := Nat.mod_lt _ (by decide)
      have hc : t (s + i) < 256 := by rcases tol_cases (ht i (by omega)) with z | z | z | z | z <;> omega
      have ml : men (t (s + i)) < 16 := (men_t ⟨t (s + i), hc⟩).2
      have tl := thV_le (K := K) (R := R) (C := C) own oth cl ((i + u) % 6)
      have al : men (t (s + i)) &&& thV K R C own oth cl ((i + u) % 6) ≤ men (t (s + i)) := Nat.and_le_left
      rw [sg_X5_textFitsTurned_3, if_pos (show i32 i < (6 : Int32) from (i32_lt (b := 6) (by omega) (by decide)).2 (by omega)), if_neg (show ¬ i32 q < (0 : Int32) by rw [show (0 : Int32) = i32 0 from rfl, i32_lt (by omega) (by decide)]; omega), i32_add, if_pos (show i32 (q + i) < (180 : Int32) from (i32_lt (b := 180) (by omega) (by decide)).2 (by omega)), i32_add, show (6 : Int32) = i32 6 from rfl, i32_mod (by omega) (by decide) (by decide), sp0_next e I J A B h hcl md, mm_aft_v, sg_X5_textFitsTurned_43, i32_add, if_pos ((i32_in (by omega)).2 (by omega)), i32_ix (by omega), hA i (by omega), sp_meaning _ hc, mm_aft_v, sg_X5_textFitsTurned_57, sp_thing _ h.v hcl md, mm_aft_v, sg_X5_textFitsTurned_66, i32_and]
      by_cases y : men (t (s + i)) &&& thV K R C own oth cl ((i + u) % 6) = 0
      · rw [decide_eq_true y] at un2
        rw [if_pos (show i32 (men (t (s + i)) &&& thV K R C own oth cl ((i + u) % 6)) = 0 by rw [y]; rfl), alB_stop (i := i) un2 (by omega)]; rfl
      · rw [decide_eq_false y] at un2
        rw [if_neg (show ¬ i32 (men (t (s + i)) &&& thV K R C own oth cl ((i + u) % 6)) = 0 from fun z => y ((i32_eq (b := 0) (by omega) (by decide)).1 z))]
        simp only [i32_l]
        rw [i32_add]
        exact ih (i + 1) _ (by omega) (by rw [un, ha, un2]; rfl)
  rw [en_X5_textFitsTurned, sg_X5_textFitsTurned_0]
  exact L 6 0 none rfl rfl
theorem sp_textFits (h : CB K R C I J A B) (hP : PC pn ln tx I A) (hB : PB pn ln tx) {pt cl : Nat} (hpt : pt < pn) (hcl : cl < bN K R C) (own oth : Int64) : f_X5_textFits [.ref 24, .int (i32 pt), .int (i32 cl), .long own, .long oth] (79, e, mm_R0, I, J, A, B) = some (.inl (some (.int (bi (fitF (tx pt) (ln pt) (thV K R C own oth cl) 5 0)))), (79, e, mm_R0, I, J, A, B)) := by
  obtain ⟨b1, b2⟩ := hB pt hpt
  obtain ⟨a1, a2⟩ := hP.2.2 pt hpt
  have h6 := hP.2.1
  have has := sp_hasPattern e I J A B hP.1 h6 (i32 pt)
  rw [cellP_i (by omega) (by omega), decide_eq_true hpt] at has
  have tT := fun {s u q : Nat} (t : Nat → Nat) (hu : u < 6) (hq : q + 6 ≤ 180) (ht : ∀ i, i < 6 → tol (t (s + i)) = true) (hA : ∀ i, i < 6 → A 26 (q + i) = i32 (t (s + i))) => sp_textTurned e I J A B h own oth (t := t) (s := s) (u := u) (q := q) (cl := cl) hu hq hcl ht hA
  obtain ⟨th, hth⟩ : ∃ th, th = thV K R C own oth cl := ⟨_, rfl⟩
  rw [← hth]
  rw [← hth] at tT
  generalize ln pt = n at a1 a2 b1 b2 ⊢
  generalize tx pt = t at a2 b2 ⊢
  have chr : ∀ i, i < n → f_X5_character [.ref 24, .int (i32 pt), .int (i32 i)] (79, e, mm_R0, I, J, A, B) = mm_run (mm_pr tb_X5_character) (34, [some (.ref 24), some (.int (i32 pt)), some (.int (i32 i))], [.int (i32 (t i))], (79, e, mm_R0, I, J, A, B)) := fun i hi => by
    rw [en_X5_character, sg_X5_character_0, has, mm_aft_v, sg_X5_character_5, if_neg (show ¬ bi true = 0 by decide), if_neg (show ¬ i32 i < (0 : Int32) by rw [show (0 : Int32) = i32 0 from rfl, i32_lt (by omega) (by decide)]; omega), if_pos (show i32 i < (30 : Int32) from (i32_lt (b := 30) (by omega) (by decide)).2 (by omega)), show (30 : Int32) = i32 30 from rfl, i32_mul, i32_add, if_pos ((i32_in (by omega)).2 (by omega)), i32_ix (by omega), show pt * 30 + i = 30 * pt + i by omega, a2 i hi]
  have L : ∀ (f s i : Nat) (o10 o11 o12 : Option Value), n ≤ s + 7 * f → (s < n → scn t (n - s) s 0 = iN) → s ≤ 40 → 7 * i ≤ s → mm_run (mm_pr tb_X5_textFits) (26, [some (.ref 24), some (.int (i32 pt)), some (.int (i32 cl)), some (.long own), none, some (.long oth), none, some (.int (i32 n)), some (.int (i32 s)), some (.int (i32 i)), o10, o11, o12], [], (79, e, mm_R0, I, J, A, B)) = some (.inl (some (.int (bi (fitF t n th f s)))), (79, e, mm_R0, I, J, A, B)) := by
    intro f
    have stop : ∀ (s i : Nat) (o10 o11 o12 : Option Value), ¬ s < n → s ≤ 40 → 7 * i ≤ s → mm_run (mm_pr tb_X5_textFits) (26, [some (.ref 24), some (.int (i32 pt)), some (.int (i32 cl)), some (.long own), none, some (.long oth), none, some (.int (i32 n)), some (.int (i32 s)), some (.int (i32 i)), o10, o11, o12], [], (79, e, mm_R0, I, J, A, B)) = some (.inl (some (.int (bi false))), (79, e, mm_R0, I, J, A, B)) := by
      intro s i o10 o11 o12 c hs hi
      rw [sg_X5_textFits_26, if_neg (fun z => c ((i32_lt (by omega) (by omega)).1 z)), sg_X5_textFits_140]
      split <;> rfl
    induction f with
    | zero =>
      intro s i o10 o11 o12 hn hw hs hi
      exact stop s i o10 o11 o12 (by omega) hs hi
    | succ f ih =>
      intro s i o10 o11 o12 hn hw hs hi
      have un : fitF t n th (f + 1) s = if s < n then (exB (fitT t th s) (if fxT t n s = true then 1 else 6) || fitF t n th f (s + 6 + (if fxT t n s = true then 2 else 1))) else false := rfl
      by_cases c : s < n
      · obtain ⟨c1, c2, c3, c4, c5⟩ := alt_next b1 c (hw c)
        obtain ⟨U, hU⟩ : ∃ U, U = if fxT t n s = true then 1 else 6 := ⟨_, rfl⟩
        obtain ⟨V, hV⟩ : ∃ V, V = if fxT t n s = true then 2 else 1 := ⟨_, rfl⟩
        have hU6 : U ≤ 6 := by rw [hU]; split <;> omega
        have hV2 : 1 ≤ V ∧ V ≤ 2 := by rw [hV]; split <;> omega
        rw [un, if_pos c, ← hU, ← hV]
        rw [← hV] at c3
        have T : ∀ (dd u : Nat), u + dd = U → exB (fitT t th s) u = false → mm_run (mm_pr tb_X5_textFits) (75, [some (.ref 24), some (.int (i32 pt)), some (.int (i32 cl)), some (.long own), none, some (.long oth), none, some (.int (i32 n)), some (.int (i32 s)), some (.int (i32 i)), some (.int (i32 (s + 6))), some (.int (bi (fxT t n s))), some (.int (i32 u))], [], (79, e, mm_R0, I, J, A, B)) = some (.inl (some (.int (bi (exB (fitT t th s) U || fitF t n th f (s + 6 + V))))), (79, e, mm_R0, I, J, A, B)) := by
          intro dd
          induction dd with
          | zero =>
            intro u hu he
            have uU : u = U := by omega
            subst uU
            rw [he, Bool.false_or]
            have nx := fun o10 o11 o12 => ih (s + 6 + V) (i + 1) o10 o11 o12 (by omega) c3 (by omega) (by omega)
            cases y : fxT t n s with
            | true =>
              rw [y, if_pos rfl] at hU hV
              rw [hV] at nx ⊢
              rw [sg_X5_textFits_75, if_neg (show ¬ bi true = 0 by decide), sg_X5_textFits_88, if_neg (show ¬ i32 u < (1 : Int32) by rw [hU]; decide), if_neg (show ¬ bi true = 0 by decide), sg_X5_textFits_131]
              simp only [i32_l]
              rw [i32_add, i32_add]
              exact nx _ _ _
            | false =>
              rw [y, if_neg (show ¬ false = true by decide)] at hU hV
              rw [hV] at nx ⊢
              rw [sg_X5_textFits_75, if_pos (show bi false = 0 from rfl), sg_X5_textFits_88, if_neg (show ¬ i32 u < (6 : Int32) by rw [hU]; decide), if_pos (show bi false = 0 from rfl), sg_X5_textFits_131]
              simp only [i32_l]
              rw [i32_add, i32_add]
              exact nx _ _ _
          | succ dd ih2 =>
            intro u hu he
            have un3 : exB (fitT t th s) (u + 1) = (exB (fitT t th s) u || fitT t th s u) := rfl
            have s88 : mm_run (mm_pr tb_X5_textFits) (75, [some (.ref 24), some (.int (i32 pt)), some (.int (i32 cl)), some (.long own), none, some (.long oth), none, some (.int (i32 n)), some (.int (i32 s)), some (.int (i32 i)), some (.int (i32 (s + 6))), some (.int (bi (fxT t n s))), some (.int (i32 u))], [], (79, e, mm_R0, I, J, A, B)) = mm_run (mm_pr tb_X5_textFits) (88, [some (.ref 24), some (.int (i32 pt)), some (.int (i32 cl)), some (.long own), none, some (.long oth), none, some (.int (i32 n)), some (.int (i32 s)), some (.int (i32 i)), some (.int (i32 (s + 6))), some (.int (bi (fxT t n s))), some (.int (i32 u))], [.int (i32 U), .int (i32 u)], (79, e, mm_R0, I, J, A, B)) := by
              rw [sg_X5_textFits_75, hU]
              cases fxT t n s with
              | true => rw [if_neg (show ¬ bi true = 0 by decide), if_pos rfl]; rfl
              | false => rw [if_pos (show bi false = 0 from rfl), if_neg (show ¬ false = true by decide)]; rfl
            rw [s88, sg_X5_textFits_88, if_pos ((i32_lt (by omega) (by omega)).2 (by omega)), show (30 : Int32) = i32 30 from rfl, i32_mul, i32_add, show pt * 30 + s = 30 * pt + s by omega, tT t (s := s) (u := u) (q := 30 * pt + s) (by omega) (by omega) c2 (fun j hj => by rw [Nat.add_assoc]; exact a2 (s + j) (by omega)), mm_aft_v, sg_X5_textFits_108]
            cases x : fitT t th s u with
            | true =>
              rw [if_neg (show ¬ bi true = 0 by decide), exB_go (p := fitT t th s) (i := u) (n := U) x (by omega)]; rfl
            | false =>
              rw [if_pos (show bi false = 0 from rfl)]
              simp only [i32_l]
              rw [i32_add]
              exact ih2 (u + 1) (by omega) (by rw [un3, he, x]; rfl)
        have st : ∃ o11', mm_run (mm_pr tb_X5_textFits) (26, [some (.ref 24), some (.int (i32 pt)), some (.int (i32 cl)), some (.long own), none, some (.long oth), none, some (.int (i32 n)), some (.int (i32 s)), some (.int (i32 i)), o10, o11, o12], [], (79, e, mm_R0, I, J, A, B)) = mm_run (mm_pr tb_X5_textFits) (70, [some (.ref 24), some (.int (i32 pt)), some (.int (i32 cl)), some (.long own), none, some (.long oth), none, some (.int (i32 n)), some (.int (i32 s)), some (.int (i32 i)), some (.int (i32 (s + 6))), o11', o12], [.int (bi (fxT t n s))], (79, e, mm_R0, I, J, A, B)) := by
          refine ⟨o11, ?_⟩
          rw [sg_X5_textFits_26, if_pos (show i32 i < (4 : Int32) from (i32_lt (b := 4) (by omega) (by decide)).2 (by omega)), if_pos ((i32_lt (by omega) (by omega)).2 c), show (6 : Int32) = i32 6 from rfl, i32_add, sg_X5_textFits_69]
          by_cases y : s + 6 < n
          · have tl : t (s + 6) < 256 := by
              rcases (alt_step b1 (by omega) (hw c)).2.2 with z | ⟨z, _⟩ | ⟨z, _⟩ <;> omega
            rw [if_pos ((i32_lt (by omega) (by omega)).2 y), chr (s + 6) y, sg_X5_character_34, if_pos ((i32_in (by omega)).2 (by omega)), mm_aft_v, sg_X5_textFits_60, sg_X5_textFits_69]
            by_cases x : t (s + 6) = 33
            · rw [if_pos (show i32 (t (s + 6)) = (33 : Int32) by rw [x]; rfl), c4.2 ⟨y, x⟩]; rfl
            · rw [if_neg (show ¬ i32 (t (s + 6)) = (33 : Int32) from fun z => x ((i32_eq (b := 33) (by omega) (by decide)).1 z)), bool_f (fun z => x (c4.1 z).2)]; rfl
          · rw [if_neg (fun z => y ((i32_lt (by omega) (by omega)).1 z)), bool_f (fun z => y (c4.1 z).1)]; rfl
        obtain ⟨o11', st⟩ := st
        rw [st, sg_X5_textFits_70]
        exact T U 0 (by omega) rfl
      · rw [un, if_neg c]
        exact stop s i o10 o11 o12 c hs hi
  rw [en_X5_textFits, sg_X5_textFits_0, has, mm_aft_v, sg_X5_textFits_5, if_neg (show ¬ bi true = 0 by decide), if_pos ((i32_in (by omega)).2 (by omega)), i32_ix (by omega), a1, sg_X5_textFits_18]
  exact L 5 0 0 none none none (by omega) (fun _ => b2) (by omega) (by omega)
theorem sp_byText (h : CB K R C I J A B) (hP : PC pn ln tx I A) (hB : PB pn ln tx) {pt : Nat} (hpt : pt < pn) (own oth : Int64) {em : Int64} (hem : ∀ c, c < bN K R C → mb em c = !(mb own c || mb oth c)) : f_X5_placesByText [.ref 24, .int (i32 pt), .long own, .long oth] (79, e, mm_R0, I, J, A, B) = some (.inl (some (.long (fitW K R C (tx pt) (ln pt) own oth em))), (79, e, mm_R0, I, J, A, B)) := by
  have hN := bN_le h.v
  unfold fitW
  obtain ⟨F, hF⟩ : ∃ F : Nat → Bool, F = (fun c => mb em c && fitF (tx pt) (ln pt) (thV K R C own oth c) 5 0) := ⟨_, rfl⟩
  rw [← hF]
  have L : ∀ (dd c : Nat), c + dd = bN K R C → mm_run (mm_pr tb_X5_placesByText) (6, [some (.ref 24), some (.int (i32 pt)), some (.long own), none, some (.long oth), none, some (.long (ms F c)), none, some (.int (i32 c))], [], (79, e, mm_R0, I, J, A, B)) = some (.inl (some (.long (ms F (bN K R C)))), (79, e, mm_R0, I, J, A, B)) := by
    intro dd
    induction dd with
    | zero =>
      intro c hc
      have : c = bN K R C := by omega
      rw [sg_X5_placesByText_6, h.cells, if_neg (by rw [i32_lt (by omega) (by omega)]; omega), this]
    | succ dd ih =>
      intro c hc
      have un : ms F (c + 1) = ms F c ||| (if F c = true then mbit c else 0) := rfl
      have un2 : F c = (mb em c && fitF (tx pt) (ln pt) (thV K R C own oth c) 5 0) := by rw [hF]
      have nx := ih (c + 1) (by omega)
      rw [un, un2, hem c (by omega)] at nx
      rw [sg_X5_placesByText_6, h.cells, if_pos ((i32_lt (by omega) (by omega)).2 (by omega)), sp_has _ _ (by omega), mm_aft_v, mb_or, sg_X5_placesByText_27]
      cases y : (mb own c || mb oth c) with
      | true =>
        rw [y, Bool.not_true, Bool.false_and, if_neg (show ¬ false = true by decide), or_zero64] at nx
        rw [if_neg (show ¬ bi true = 0 by decide), sg_X5_placesByText_52]
        simp only [i32_l]
        rw [i32_add]
        exact nx
      | false =>
        rw [y, Bool.not_false, Bool.true_and] at nx
        rw [if_pos (show bi false = 0 from rfl), sp_textFits e I J A B h hP hB hpt (by omega) own oth, mm_aft_v, sg_X5_placesByText_40, sg_X5_placesByText_52, sg_X5_placesByText_52]
        simp only [i32_l]
        rw [i32_add]
        cases x : fitF (tx pt) (ln pt) (thV K R C own oth c) 5 0 with
        | false =>
          rw [x, if_neg (show ¬ false = true by decide), or_zero64] at nx
          rw [if_pos (show bi false = i32 0 from rfl)]
          exact nx
        | true =>
          rw [x, if_pos rfl] at nx
          rw [if_neg (show ¬ bi true = i32 0 by decide)]
          exact nx
  rw [en_X5_placesByText, sg_X5_placesByText_0]
  exact L (bN K R C) 0 (by omega)
theorem cC_fitsAnew_1 (hP : PC pn ln tx I A) {x y : Int32} (hx : (cellP pn x && plaP y) = false) : f_X10_fitsAnew [.ref 0, .int x, .int y] (79, e, mm_R0, I, J, A, B) = some (.inr 1, (79, e + 1, mm_R0, I, J, A, B)) := by
  rw [en_X10_fitsAnew, sg_X10_fitsAnew_0, sp_hasPattern e I J A B hP.1 hP.2.1, mm_aft_v, sg_X10_fitsAnew_8]
  cases q : cellP pn x with
  | false => rw [if_pos (show bi false = 0 from rfl), sg_X10_fitsAnew_18]
  | true =>
    rw [q, Bool.true_and] at hx
    rw [if_neg (show ¬ bi true = 0 by decide), sp_isPlayerP, mm_aft_v, hx, sg_X10_fitsAnew_15, if_pos (show bi false = 0 from rfl), sg_X10_fitsAnew_18]
theorem emp_pp (v : bV K R C = true) {p : Nat} (hp : p < 2) : ∀ c, c < bN K R C → mb (emp (bN K R C) (sN lg m sw 0) (sN lg m sw 1)) c = !(mb (sN lg m sw p) c || mb (sN lg m sw (1 - p)) c) := by
  intro c hc
  rw [emp_fit v hc]
  have : p = 0 ∨ p = 1 := by omega
  rcases this with q | q
  · subst q; rfl
  · subst q; rw [Bool.or_comm]
theorem cC_fitsAnew (h : CG K R C lg m sw I J A B) (hP : PC pn ln tx I A) (hB : PB pn ln tx) {p pt : Nat} (hp : p < 2) (hpt : pt < pn) : f_X10_fitsAnew [.ref 0, .int (i32 pt), .int (i32 p)] (79, e, mm_R0, I, J, A, B) = some (.inl (some (.long (fitW K R C (tx pt) (ln pt) (sN lg m sw p) (sN lg m sw (1 - p)) (emp (bN K R C) (sN lg m sw 0) (sN lg m sw 1))))), (79, e, mm_R0, I, J, A, B)) := by
  have h6 := hP.2.1
  rw [en_X10_fitsAnew, sg_X10_fitsAnew_0, sp_hasPattern e I J A B hP.1 hP.2.1, mm_aft_v, sg_X10_fitsAnew_8, cellP_i (by omega) (by omega), decide_eq_true hpt, if_neg (show ¬ bi true = 0 by decide), sp_isPlayerP, mm_aft_v, plaP_i hp, sg_X10_fitsAnew_15, if_neg (show ¬ bi true = 0 by decide), sp0_stones e I J A B h hp, mm_aft_v, sg_X10_fitsAnew_42, show (1 : Int32) = i32 1 from rfl, i32_sub (by omega), sp0_stones e I J A B h (by omega), mm_aft_v, sg_X10_fitsAnew_52, sp_byText e I J A B h.1 hP hB hpt _ _ (emp_pp h.1.v hp), mm_aft_v, sg_X10_fitsAnew_55]
end
