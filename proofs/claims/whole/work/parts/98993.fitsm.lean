/-! patterns: how they fit, reference -/
abbrev PM (pn : Nat) (ln : Nat → Nat) (tx : Nat → Nat → Nat) (I : Nat → Nat → Int32) (A : Nat → Nat → Int32) : Prop := I 39 28 = i32 pn ∧ pn ≤ 6 ∧ (∀ p, p < pn → A 57 p = i32 (ln p) ∧ ∀ i, i < ln p → A 56 (30 * p + i) = i32 (tx p i))
abbrev PB (pn : Nat) (ln : Nat → Nat) (tx : Nat → Nat → Nat) : Prop := ∀ p, p < pn → ln p ≤ 30 ∧ scn (tx p) (ln p) 0 0 = iN
theorem tol_cases {c : Nat} (h : tol c = true) : c = 46 ∨ c = 111 ∨ c = 120 ∨ c = 35 ∨ c = 42 := by
  unfold tol at h
  exact of_decide_eq_true h
section
variable {K R C : Nat} {lg : Nat → Nat} {m : Nat} {sw : Bool} {pn : Nat} {ln : Nat → Nat} {tx : Nat → Nat → Nat} (k : Nat) (r : Nat → Nat → Value) (e : Nat) (I : Nat → Nat → Int32) (J : Nat → Nat → Int64) (A : Nat → Nat → Int32) (B : Nat → Nat → Int64)
theorem sp_MisAs (h : MG K R C lg m sw I A B) (w : WG K R C lg m sw) {p : Nat} (hp : p < 2) {c : Nat} (hc : tol c = true) {cl d : Nat} (hcl : cl < bN K R C) (hd : d < 6) : f_X11_isAs [.ref 39, .int (i32 c), .int (bNx K R C cl d), .int (i32 p)] (k + 64, e, (mm_RM r), I, J, A, B) = some (.inl (some (.int (bi (!decide (men c &&& thV K R C (sN lg m sw p) (sN lg m sw (1 - p)) cl d = 0))))), (k + 64, e, (mm_RM r), I, J, A, B)) := by
  have hN := bN_le w.1
  unfold thV
  rcases b_nxc w.1 hcl hd with q | ⟨x, x1, x2⟩
  · rw [if_pos q, q, en_X11_isAs, sg_X11_isAs_0]
    rcases tol_cases hc with z | z | z | z | z <;> subst z
    · show mm_run _ (49, _, _, _) = _
      rw [sg_X11_isAs_49, if_pos (show iN = (-1 : Int32) from rfl), sg_X11_isAs_69, sg_X11_isAs_70, if_pos (Or.inl rfl)]; rfl
    · show mm_run _ (71, _, _, _) = _
      rw [sg_X11_isAs_71, if_pos (show iN = (-1 : Int32) from rfl), sg_X11_isAs_105, sg_X11_isAs_106, if_pos (Or.inl rfl)]; rfl
    · show mm_run _ (71, _, _, _) = _
      rw [sg_X11_isAs_71, if_pos (show iN = (-1 : Int32) from rfl), sg_X11_isAs_105, sg_X11_isAs_106, if_pos (Or.inl rfl)]; rfl
    · show mm_run _ (38, _, _, _) = _
      rw [sg_X11_isAs_38, if_pos (show iN = (-1 : Int32) from rfl), sg_X11_isAs_48, if_pos (Or.inr rfl)]; rfl
    · show mm_run _ (36, _, _, _) = _
      rw [sg_X11_isAs_36]; rfl
  · have ne : ¬ i32 x = (-1 : Int32) := fun z => (iN_ne (a := x) (by omega)).1 z
    have sp : B 45 p = sN lg m sw p := MG.st I B h hp
    have so : B 45 (1 - p) = sN lg m sw (1 - p) := MG.st I B h (by omega)
    have dj := sN_disj w hp x
    have em := emp_p w hp x
    have cp : (0 ≤ (i32 p).toInt ∧ (i32 p).toInt < 2) := (i32_in (by omega)).2 (by omega)
    have co : (0 ≤ (i32 (1 - p)).toInt ∧ (i32 (1 - p)).toInt < 2) := (i32_in (by omega)).2 (by omega)
    rw [x1, if_neg (fun z => (iN_ne (a := x) (by omega)).1 z), i32_ix (by omega), en_X11_isAs, sg_X11_isAs_0]
    rcases tol_cases hc with z | z | z | z | z <;> subst z
    · show mm_run _ (49, _, _, _) = _
      rw [sg_X11_isAs_49, if_neg ne, sp_MemptyG k r e I J A B h, mm_aft_v, sg_X11_isAs_58, sp_Mhas _ _ (by omega), mm_aft_v, sg_X11_isAs_62, sg_X11_isAs_69, sg_X11_isAs_70, sg_X11_isAs_70, if_pos (Or.inl rfl), if_pos (Or.inr rfl)]
      cases y1 : mb (sN lg m sw p) x with
      | true =>
        have : mb (emp (bN K R C) (sN lg m sw 0) (sN lg m sw 1)) x = false := bool_f (fun y => by rw [(em.1 y).2.1] at y1; cases y1)
        rw [this, if_pos (show bi false = 0 from rfl), if_pos rfl]; rfl
      | false =>
        rw [if_neg (show ¬ false = true by decide)]
        cases y2 : mb (sN lg m sw (1 - p)) x with
        | true =>
          have : mb (emp (bN K R C) (sN lg m sw 0) (sN lg m sw 1)) x = false := bool_f (fun y => by rw [(em.1 y).2.2] at y2; cases y2)
          rw [this, if_pos (show bi false = 0 from rfl), if_pos rfl]; rfl
        | false =>
          rw [em.2 ⟨x2, y1, y2⟩, if_neg (show ¬ bi true = 0 by decide), if_neg (show ¬ false = true by decide)]; rfl
    · show mm_run _ (71, _, _, _) = _
      rw [sg_X11_isAs_71, if_neg ne, if_pos (show i32 111 = (111 : Int32) from rfl), sg_X11_isAs_93, if_pos cp, i32_ix (by omega), sp, sp_Mhas _ _ (by omega), mm_aft_v, sg_X11_isAs_98, sg_X11_isAs_105, sg_X11_isAs_106, sg_X11_isAs_106, if_pos (Or.inl rfl), if_pos (Or.inr rfl)]
      cases y1 : mb (sN lg m sw p) x with
      | true => rw [if_neg (show ¬ bi true = 0 by decide), if_pos rfl]; rfl
      | false =>
        rw [if_pos (show bi false = 0 from rfl), if_neg (show ¬ false = true by decide)]
        cases mb (sN lg m sw (1 - p)) x <;> rfl
    · show mm_run _ (71, _, _, _) = _
      rw [sg_X11_isAs_71, if_neg ne, if_neg (show ¬ i32 120 = (111 : Int32) by decide), show (1 : Int32) = i32 1 from rfl, i32_sub (by omega), sg_X11_isAs_93, if_pos co, i32_ix (by omega), so, sp_Mhas _ _ (by omega), mm_aft_v, sg_X11_isAs_98, sg_X11_isAs_105, sg_X11_isAs_106, sg_X11_isAs_106, if_pos (Or.inl rfl), if_pos (Or.inr rfl)]
      cases y1 : mb (sN lg m sw p) x with
      | true =>
        rw [dj y1, if_pos (show bi false = 0 from rfl), if_pos rfl]; rfl
      | false =>
        rw [if_neg (show ¬ false = true by decide)]
        cases mb (sN lg m sw (1 - p)) x with
        | true => rw [if_neg (show ¬ bi true = 0 by decide), if_pos rfl]; rfl
        | false => rw [if_pos (show bi false = 0 from rfl), if_neg (show ¬ false = true by decide)]; rfl
    · show mm_run _ (38, _, _, _) = _
      rw [sg_X11_isAs_38, if_neg ne, sg_X11_isAs_48, if_pos (Or.inl rfl)]
      cases mb (sN lg m sw p) x <;> cases mb (sN lg m sw (1 - p)) x <;> rfl
    · show mm_run _ (36, _, _, _) = _
      rw [sg_X11_isAs_36]
      cases mb (sN lg m sw p) x <;> cases mb (sN lg m sw (1 - p)) x <;> rfl
theorem sp_MfitsAt (h : MG K R C lg m sw I A B) (w : WG K R C lg m sw) {p : Nat} (hp : p < 2) {t : Nat → Nat} {s u q cl : Nat} (hu : u < 6) (hq : q + 6 ≤ 180) (hcl : cl < bN K R C) (ht : ∀ i, i < 6 → tol (t (s + i)) = true) (hA : ∀ i, i < 6 → A 56 (q + i) = i32 (t (s + i))) : f_X11_fitsAt [.ref 39, .int (i32 q), .int (i32 u), .int (i32 cl), .int (i32 p)] (k + 64, e, (mm_RM r), I, J, A, B) = some (.inl (some (.int (bi (fitT t (thV K R C (sN lg m sw p) (sN lg m sw (1 - p)) cl) s u)))), (k + 64, e, (mm_RM r), I, J, A, B)) := by
  have hN := bN_le w.1
  unfold fitT
  obtain ⟨F, hF⟩ : ∃ F : Nat → Bool, F = (fun i => !decide (men (t (s + i)) &&& thV K R C (sN lg m sw p) (sN lg m sw (1 - p)) cl ((i + u) % 6) = 0)) := ⟨_, rfl⟩
  rw [← hF]
  have L : ∀ (dd i : Nat), i + dd = 6 → mm_run (mm_pr tb_X11_fitsAt) (6, [some (.ref 39), some (.int (i32 q)), some (.int (i32 u)), some (.int (i32 cl)), some (.int (i32 p)), some (.int (bi (alB F i))), some (.int (i32 i))], [], (k + 64, e, (mm_RM r), I, J, A, B)) = some (.inl (some (.int (bi (alB F 6)))), (k + 64, e, (mm_RM r), I, J, A, B)) := by
    intro dd
    induction dd with
    | zero =>
      intro i hi
      have : i = 6 := by omega
      subst this
      rw [sg_X11_fitsAt_6, if_neg (show ¬ i32 6 < (6 : Int32) by decide), if_pos (bi_ok _)]
    | succ dd ih =>
      intro i hi
      have un : alB F (i + 1) = (alB F i && F i) := rfl
      have un2 : F i = !decide (men (t (s + i)) &&& thV K R C (sN lg m sw p) (sN lg m sw (1 - p)) cl ((i + u) % 6) = 0) := by rw [hF]
      rw [sg_X11_fitsAt_6, if_pos (show i32 i < (6 : Int32) from (i32_lt (b := 6) (by omega) (by decide)).2 (by omega))]
      cases y : alB F i with
      | false =>
        rw [if_pos (show bi false = 0 from rfl), sg_X11_fitsAt_57, sg_X11_fitsAt_58]
        simp only [i32_l]
        rw [i32_add, ← ih (i + 1) (by omega), un, y]
        rfl
      | true =>
        have md : (i + u) % 6 < 6 := Nat.mod_lt _ (by decide)
        have nx := h.1.nx cl ((i + u) % 6) hcl md
        rw [if_neg (show ¬ bi true = 0 by decide), i32_add, i32_add, show (6 : Int32) = i32 6 from rfl, i32_mod (by omega) (by decide) (by decide), i32_mul, i32_add, if_pos ((i32_in (by omega)).2 (by omega)), if_pos ((i32_in (by omega)).2 (by omega)), i32_ix (by omega), i32_ix (by omega), hA i (by omega), nx, sp_MisAs k r e I J A B h w hp (ht i (by omega)) hcl md, mm_aft_v, ← un2, sg_X11_fitsAt_50, sg_X11_fitsAt_57, sg_X11_fitsAt_58, sg_X11_fitsAt_58]
        simp only [i32_l]
        rw [i32_add]
        have nx2 := ih (i + 1) (by omega)
        rw [un, y, Bool.true_and] at nx2
        cases x : F i with
        | false =>
          rw [x] at nx2
          rw [if_pos (show bi false = i32 0 from rfl)]
          exact nx2
        | true =>
          rw [x] at nx2
          rw [if_neg (show ¬ bi true = i32 0 by decide)]
          exact nx2
  rw [en_X11_fitsAt, sg_X11_fitsAt_0]
  exact L 6 0 rfl
theorem sp_MfitsCell (h : MG K R C lg m sw I A B) (w : WG K R C lg m sw) (hP : PM pn ln tx I A) (hB : PB pn ln tx) {p pt cl : Nat} (hp : p < 2) (hpt : pt < pn) (hcl : cl < bN K R C) : f_X11_fitsCell [.ref 39, .int (i32 pt), .int (i32 cl), .int (i32 p)] (k + 64, e, (mm_RM r), I, J, A, B) = some (.inl (some (.int (bi (fitF (tx pt) (ln pt) (thV K R C (sN lg m sw p) (sN lg m sw (1 - p)) cl) 5 0)))), (k + 64, e, (mm_RM r), I, J, A, B)) := by
  obtain ⟨b1, b2⟩ := hB pt hpt
  obtain ⟨a1, a2⟩ := hP.2.2 pt hpt
  have h6 := hP.2.1
  obtain ⟨th, hth⟩ : ∃ th, th = thV K R C (sN lg m sw p) (sN lg m sw (1 - p)) cl := ⟨_, rfl⟩
  rw [← hth]
  generalize ln pt = n at a1 a2 b1 b2 ⊢
  generalize tx pt = t at a2 b2 ⊢
  have L : ∀ (f s : Nat) (b : Bool) (o7 o8 : Option Value), n ≤ s + 7 * f → (s < n → scn t (n - s) s 0 = iN) → s ≤ 40 → mm_run (mm_pr tb_X11_fitsCell) (20, [some (.ref 39), some (.int (i32 pt)), some (.int (i32 cl)), some (.int (i32 p)), some (.int (bi b)), some (.int (i32 (30 * pt + s))), some (.int (i32 (30 * pt + n))), o7, o8], [], (k + 64, e, (mm_RM r), I, J, A, B)) = some (.inl (some (.int (bi (b || fitF t n th f s)))), (k + 64, e, (mm_RM r), I, J, A, B)) := by
    intro f
    induction f with
    | zero =>
      intro s b o7 o8 hn hw hs
      rw [sg_X11_fitsCell_20, if_neg (by rw [i32_lt (by omega) (by omega)]; omega), if_pos (bi_ok _)]
      rw [show fitF t n th 0 s = false from rfl, Bool.or_false]
    | succ f ih =>
      intro s b o7 o8 hn hw hs
      have un : fitF t n th (f + 1) s = if s < n then (exB (fitT t th s) (if fxT t n s = true then 1 else 6) || fitF t n th f (s + 6 + (if fxT t n s = true then 2 else 1))) else false := rfl
      by_cases c : s < n
      · obtain ⟨c1, c2, c3, c4, c5⟩ := alt_next b1 c (hw c)
        obtain ⟨U, hU⟩ : ∃ U, U = if fxT t n s = true then 1 else 6 := ⟨_, rfl⟩
        obtain ⟨V, hV⟩ : ∃ V, V = if fxT t n s = true then 2 else 1 := ⟨_, rfl⟩
        have hU6 : U ≤ 6 := by rw [hU]; split <;> omega
        have hV2 : 1 ≤ V ∧ V ≤ 2 := by rw [hV]; split <;> omega
        have T : ∀ (dd u : Nat), u + dd = U → mm_run (mm_pr tb_X11_fitsCell) (62, [some (.ref 39), some (.int (i32 pt)), some (.int (i32 cl)), some (.int (i32 p)), some (.int (bi (b || exB (fitT t th s) u))), some (.int (i32 (30 * pt + s))), some (.int (i32 (30 * pt + n))), some (.int (bi (fxT t n s))), some (.int (i32 u))], [], (k + 64, e, (mm_RM r), I, J, A, B)) = mm_run (mm_pr tb_X11_fitsCell) (20, [some (.ref 39), some (.int (i32 pt)), some (.int (i32 cl)), some (.int (i32 p)), some (.int (bi (b || exB (fitT t th s) U))), some (.int (i32 (30 * pt + (s + 6 + V)))), some (.int (i32 (30 * pt + n))), some (.int (bi (fxT t n s))), some (.int (i32 U))], [], (k + 64, e, (mm_RM r), I, J, A, B)) := by
          intro dd
          induction dd with
          | zero =>
            intro u hu
            have uU : u = U := by omega
            subst uU
            cases y : fxT t n s with
            | true =>
              rw [y, if_pos rfl] at hU hV
              rw [sg_X11_fitsCell_62, if_neg (show ¬ bi true = 0 by decide), sg_X11_fitsCell_75, if_neg (show ¬ i32 u < (1 : Int32) by rw [hU]; decide), if_neg (show ¬ bi true = 0 by decide), sg_X11_fitsCell_123]
              simp only [i32_l]
              rw [i32_add, i32_add, hV, show 30 * pt + s + (6 + 2) = 30 * pt + (s + 6 + 2) by omega]
            | false =>
              rw [y, if_neg (show ¬ false = true by decide)] at hU hV
              rw [sg_X11_fitsCell_62, if_pos (show bi false = 0 from rfl), sg_X11_fitsCell_75, if_neg (show ¬ i32 u < (6 : Int32) by rw [hU]; decide), if_pos (show bi false = 0 from rfl), sg_X11_fitsCell_123]
              simp only [i32_l]
              rw [i32_add, i32_add, hV, show 30 * pt + s + (6 + 1) = 30 * pt + (s + 6 + 1) by omega]
          | succ dd ih2 =>
            intro u hu
            have un3 : exB (fitT t th s) (u + 1) = (exB (fitT t th s) u || fitT t th s u) := rfl
            have s75 : mm_run (mm_pr tb_X11_fitsCell) (62, [some (.ref 39), some (.int (i32 pt)), some (.int (i32 cl)), some (.int (i32 p)), some (.int (bi (b || exB (fitT t th s) u))), some (.int (i32 (30 * pt + s))), some (.int (i32 (30 * pt + n))), some (.int (bi (fxT t n s))), some (.int (i32 u))], [], (k + 64, e, (mm_RM r), I, J, A, B)) = mm_run (mm_pr tb_X11_fitsCell) (75, [some (.ref 39), some (.int (i32 pt)), some (.int (i32 cl)), some (.int (i32 p)), some (.int (bi (b || exB (fitT t th s) u))), some (.int (i32 (30 * pt + s))), some (.int (i32 (30 * pt + n))), some (.int (bi (fxT t n s))), some (.int (i32 u))], [.int (i32 U), .int (i32 u)], (k + 64, e, (mm_RM r), I, J, A, B)) := by
              rw [sg_X11_fitsCell_62, hU]
              cases fxT t n s with
              | true => rw [if_neg (show ¬ bi true = 0 by decide), if_pos rfl]; rfl
              | false => rw [if_pos (show bi false = 0 from rfl), if_neg (show ¬ false = true by decide)]; rfl
            have nx := ih2 (u + 1) (by omega)
            rw [un3] at nx
            rw [s75, sg_X11_fitsCell_75, if_pos ((i32_lt (by omega) (by omega)).2 (by omega))]
            cases y : (b || exB (fitT t th s) u) with
            | true =>
              rw [if_neg (show ¬ bi true = 0 by decide), sg_X11_fitsCell_96, sg_X11_fitsCell_101]
              simp only [i32_l]
              rw [i32_add, ← nx, ← Bool.or_assoc, y]
              rfl
            | false =>
              rw [← Bool.or_assoc, y, Bool.false_or] at nx
              have fa := sp_MfitsAt k r e I J A B h w hp (t := t) (s := s) (u := u) (q := 30 * pt + s) (cl := cl) (by omega) (by omega) hcl c2 (fun i hi => by rw [Nat.add_assoc]; exact a2 (s + i) (by omega))
              rw [← hth] at fa
              rw [if_pos (show bi false = 0 from rfl), fa, mm_aft_v, sg_X11_fitsCell_93, sg_X11_fitsCell_96, sg_X11_fitsCell_101, sg_X11_fitsCell_101]
              simp only [i32_l]
              rw [i32_add]
              cases x : fitT t th s u with
              | false => rw [x] at nx; rw [if_pos (show bi false = i32 0 from rfl)]; exact nx
              | true => rw [x] at nx; rw [if_neg (show ¬ bi true = i32 0 by decide)]; exact nx
        have st : mm_run (mm_pr tb_X11_fitsCell) (20, [some (.ref 39), some (.int (i32 pt)), some (.int (i32 cl)), some (.int (i32 p)), some (.int (bi b)), some (.int (i32 (30 * pt + s))), some (.int (i32 (30 * pt + n))), o7, o8], [], (k + 64, e, (mm_RM r), I, J, A, B)) = mm_run (mm_pr tb_X11_fitsCell) (62, [some (.ref 39), some (.int (i32 pt)), some (.int (i32 cl)), some (.int (i32 p)), some (.int (bi b)), some (.int (i32 (30 * pt + s))), some (.int (i32 (30 * pt + n))), some (.int (bi (fxT t n s))), some (.int (i32 0))], [], (k + 64, e, (mm_RM r), I, J, A, B)) := by
          rw [sg_X11_fitsCell_20, if_pos ((i32_lt (by omega) (by omega)).2 (by omega)), sg_X11_fitsCell_56, show (6 : Int32) = i32 6 from rfl, i32_add, sg_X11_fitsCell_57, sg_X11_fitsCell_57]
          by_cases y : s + 6 < n
          · have ch := a2 (s + 6) y
            rw [if_pos ((i32_lt (by omega) (by omega)).2 (by omega)), if_pos ((i32_in (by omega)).2 (by omega)), i32_ix (by omega), show 30 * pt + s + 6 = 30 * pt + (s + 6) by omega, ch]
            have tl : t (s + 6) < 256 := by
              rcases (alt_step b1 (by omega) (hw c)).2.2 with z | ⟨z, _⟩ | ⟨z, _⟩ <;> omega
            by_cases x : t (s + 6) = 33
            · rw [if_pos (show i32 (t (s + 6)) = (33 : Int32) by rw [x]; rfl), c4.2 ⟨y, x⟩]; rfl
            · rw [if_neg (show ¬ i32 (t (s + 6)) = (33 : Int32) from fun z => x ((i32_eq (b := 33) (by omega) (by decide)).1 z)), bool_f (fun z => x (c4.1 z).2)]; rfl
          · rw [if_neg (fun z => y (by have := (i32_lt (by omega) (by omega)).1 z; omega)), bool_f (fun z => y (c4.1 z).1)]; rfl
        have t0 := T U 0 (by omega)
        rw [show (b || exB (fitT t th s) 0) = b from Bool.or_false b] at t0
        rw [un, if_pos c, st, t0, ← hU, ← hV, ← Bool.or_assoc]
        rw [← hV] at c3
        exact ih (s + 6 + V) _ _ _ (by omega) c3 (by omega)
      · rw [un, if_neg c, Bool.or_false, sg_X11_fitsCell_20, if_neg (by rw [i32_lt (by omega) (by omega)]; omega), if_pos (bi_ok _)]
  have fin := L 5 0 false none none (by omega) (fun _ => b2) (by omega)
  rw [Bool.false_or] at fin
  rw [en_X11_fitsCell, sg_X11_fitsCell_0, if_pos ((i32_in (by omega)).2 (by omega)), i32_ix (by omega), a1]
  simp only [i32_l]
  rw [i32_mul, i32_add]
  exact fin
theorem cM_fits_ask (hP : PM pn ln tx I A) (x y : Int32) : f_X11_fits [.ref 39, .int x, .int y] (k + 64, e, (mm_RM r), I, J, A, B) = mm_run (mm_pr tb_X11_fits) (30, [some (.ref 39), some (.int x), some (.int y), none, none, none], [.int (bi (cellP pn x && plaP y))], (k + 64, e, (mm_RM r), mm_up I 39 39 (bi (!(cellP pn x && plaP y))), J, A, B)) := by
  have h6 := hP.2.1
  have t27 : ∀ b : Bool, mm_run (mm_pr tb_X11_fits) (27, [some (.ref 39), some (.int x), some (.int y), none, none, none], [.int (bi b), .ref 39], (k + 64, e, (mm_RM r), I, J, A, B)) = mm_run (mm_pr tb_X11_fits) (30, [some (.ref 39), some (.int x), some (.int y), none, none, none], [.int (bi b)], (k + 64, e, (mm_RM r), mm_up I 39 39 (bi (!b)), J, A, B)) := by
    intro b
    rw [sg_X11_fits_27, sp_Masks, mm_aft_v]
  rw [en_X11_fits, sg_X11_fits_0, sp_Min, mm_aft_v, hP.1]
  show mm_run _ (12, _, [.int (bi (rgP x 0 (i32 pn - 1))), .ref 39], _) = _
  rw [rg_cell (by omega), sg_X11_fits_12]
  cases q : cellP pn x with
  | false => rw [if_pos (show bi false = 0 from rfl), sg_X11_fits_26, Bool.false_and]; exact t27 false
  | true =>
    rw [if_neg (show ¬ bi true = 0 by decide), sp_MisPlayer, plaP_M, mm_aft_v, sg_X11_fits_19, Bool.true_and]
    cases q2 : plaP y with
    | false => rw [if_pos (show bi false = 0 from rfl), sg_X11_fits_26]; exact t27 false
    | true => rw [if_neg (show ¬ bi true = 0 by decide)]; exact t27 true
theorem cM_fits_1 (hP : PM pn ln tx I A) {x y : Int32} (hx : (cellP pn x && plaP y) = false) : f_X11_fits [.ref 39, .int x, .int y] (k + 64, e, (mm_RM r), I, J, A, B) = some (.inl (some (.long 0)), (k + 64, e, (mm_RM r), mm_up I 39 39 (i32 1), J, A, B)) := by
  rw [cM_fits_ask k r e I J A B hP, hx, sg_X11_fits_30, if_pos (show bi false = 0 from rfl)]
  rfl
theorem PM.th {x : Int32} (h : PM pn ln tx I A) : PM pn ln tx (mm_up I 39 39 x) A := ⟨by rw [mm_up_ne2 _ _ _ _ _ _ (by decide)]; exact h.1, h.2⟩
theorem cM_fits (h : MG K R C lg m sw I A B) (w : WG K R C lg m sw) (hP : PM pn ln tx I A) (hB : PB pn ln tx) {p pt : Nat} (hp : p < 2) (hpt : pt < pn) : f_X11_fits [.ref 39, .int (i32 pt), .int (i32 p)] (k + 64, e, (mm_RM r), I, J, A, B) = some (.inl (some (.long (fitW K R C (tx pt) (ln pt) (sN lg m sw p) (sN lg m sw (1 - p)) (emp (bN K R C) (sN lg m sw 0) (sN lg m sw 1))))), (k + 64, e, (mm_RM r), mm_up I 39 39 (i32 0), J, A, B)) := by
  have hN := bN_le w.1
  have h6 := hP.2.1
  have ok : (cellP pn (i32 pt) && plaP (i32 p)) = true := by rw [cellP_i (by omega) (by omega), decide_eq_true hpt, plaP_i hp]; rfl
  have hG := h.fr (FM.th I J A B (i32 0))
  have hPG := PM.th I A (x := i32 0) hP
  obtain ⟨I0, hI0⟩ : ∃ I0, I0 = mm_up I 39 39 (i32 0) := ⟨_, rfl⟩
  rw [cM_fits_ask k r e I J A B hP, ok, show bi (!true) = i32 0 from rfl, ← hI0, sg_X11_fits_30, if_neg (show ¬ bi true = 0 by decide)]
  rw [← hI0] at hG hPG
  unfold fitW
  obtain ⟨F, hF⟩ : ∃ F : Nat → Bool, F = (fun c => mb (emp (bN K R C) (sN lg m sw 0) (sN lg m sw 1)) c && fitF (tx pt) (ln pt) (thV K R C (sN lg m sw p) (sN lg m sw (1 - p)) c) 5 0) := ⟨_, rfl⟩
  rw [← hF]
  have L : ∀ (dd c : Nat), c + dd = bN K R C → mm_run (mm_pr tb_X11_fits) (40, [some (.ref 39), some (.int (i32 pt)), some (.int (i32 p)), some (.long (ms F c)), none, some (.int (i32 c))], [], (k + 64, e, (mm_RM r), I0, J, A, B)) = some (.inl (some (.long (ms F (bN K R C)))), (k + 64, e, (mm_RM r), I0, J, A, B)) := by
    intro dd
    induction dd with
    | zero =>
      intro c hc
      have : c = bN K R C := by omega
      rw [sg_X11_fits_40, hG.1.cells, if_neg (by rw [i32_lt (by omega) (by omega)]; omega), this]
    | succ dd ih =>
      intro c hc
      have un : ms F (c + 1) = ms F c ||| (if F c = true then mbit c else 0) := rfl
      have un2 : F c = (mb (emp (bN K R C) (sN lg m sw 0) (sN lg m sw 1)) c && fitF (tx pt) (ln pt) (thV K R C (sN lg m sw p) (sN lg m sw (1 - p)) c) 5 0) := by rw [hF]
      have nx := ih (c + 1) (by omega)
      rw [un, un2] at nx
      rw [sg_X11_fits_40, hG.1.cells, if_pos ((i32_lt (by omega) (by omega)).2 (by omega)), sp_MemptyG k r e I0 J A B hG, mm_aft_v, sg_X11_fits_54, sp_Mhas _ _ (by omega), mm_aft_v, sg_X11_fits_59]
      have nof : mm_run (mm_pr tb_X11_fits) (81, [some (.ref 39), some (.int (i32 pt)), some (.int (i32 p)), some (.long (ms F c)), none, some (.int (i32 c))], [.long (ms F c)], (k + 64, e, (mm_RM r), I0, J, A, B)) = mm_run (mm_pr tb_X11_fits) (40, [some (.ref 39), some (.int (i32 pt)), some (.int (i32 p)), some (.long (ms F c ||| 0)), none, some (.int (i32 (c + 1)))], [], (k + 64, e, (mm_RM r), I0, J, A, B)) := by
        rw [sg_X11_fits_81, sg_X11_fits_82]
        simp only [i32_l]
        rw [i32_add]
      cases y : mb (emp (bN K R C) (sN lg m sw 0) (sN lg m sw 1)) c with
      | false =>
        rw [y, Bool.false_and, if_neg (show ¬ false = true by decide)] at nx
        rw [if_pos (show bi false = 0 from rfl), nof]
        exact nx
      | true =>
        rw [y, Bool.true_and] at nx
        rw [if_neg (show ¬ bi true = 0 by decide), sp_MfitsCell k r e I0 J A B hG w hPG hB hp hpt (by omega), mm_aft_v, sg_X11_fits_70]
        cases x : fitF (tx pt) (ln pt) (thV K R C (sN lg m sw p) (sN lg m sw (1 - p)) c) 5 0 with
        | false =>
          rw [x, if_neg (show ¬ false = true by decide)] at nx
          rw [if_pos (show bi false = 0 from rfl), nof]
          exact nx
        | true =>
          rw [x, if_pos rfl] at nx
          rw [if_neg (show ¬ bi true = 0 by decide), sp_Mbit, mm_aft_v, sg_X11_fits_78, sg_X11_fits_82]
          simp only [i32_l]
          rw [i32_add]
          exact nx
  exact L (bN K R C) 0 (by omega)
theorem cM_fitsAnew_1 (hP : PM pn ln tx I A) {x y : Int32} (hx : (cellP pn x && plaP y) = false) : f_X11_fitsAnew [.ref 39, .int x, .int y] (k + 64, e, (mm_RM r), I, J, A, B) = some (.inl (some (.long 0)), (k + 64, e, (mm_RM r), mm_up I 39 39 (i32 1), J, A, B)) := by
  rw [en_X11_fitsAnew, sg_X11_fitsAnew_0, cM_fits_1 k r e I J A B hP hx, mm_aft_v, sg_X11_fitsAnew_6]
theorem cM_fitsAnew (h : MG K R C lg m sw I A B) (w : WG K R C lg m sw) (hP : PM pn ln tx I A) (hB : PB pn ln tx) {p pt : Nat} (hp : p < 2) (hpt : pt < pn) : f_X11_fitsAnew [.ref 39, .int (i32 pt), .int (i32 p)] (k + 64, e, (mm_RM r), I, J, A, B) = some (.inl (some (.long (fitW K R C (tx pt) (ln pt) (sN lg m sw p) (sN lg m sw (1 - p)) (emp (bN K R C) (sN lg m sw 0) (sN lg m sw 1))))), (k + 64, e, (mm_RM r), mm_up I 39 39 (i32 0), J, A, B)) := by
  rw [en_X11_fitsAnew, sg_X11_fitsAnew_0, cM_fits k r e I J A B h w hP hB hp hpt, mm_aft_v, sg_X11_fitsAnew_6]
end
