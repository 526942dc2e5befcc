/-! ladder: the reference's calls -/
section
variable {K R C : Nat} {lg : Nat → Nat} {m : Nat} {sw : Bool} {ea : Nat} {tk : Bool} {se pe us : Nat → Nat} {lo : Nat} {n : Nat} {ra : Nat → Int} {pl wo ls : Nat → Nat} {rc : Bool} (k : Nat) (r : Nat → Nat → Value) (e : Nat) (I : Nat → Nat → Int32) (J : Nat → Nat → Int64) (A : Nat → Nat → Int32) (B : Nat → Nat → Int64)
theorem LM.th {x : Int32} (h : LM n ra pl wo ls I A) : LM n ra pl wo ls (mm_up I 39 39 x) A := ⟨by rw [mm_up_ne2 _ _ _ _ _ _ (by decide)]; exact h.1, h.2⟩
theorem sp_MisPerson (h : I 39 31 = i32 n) (hn : n ≤ 10) (x : Int32) : f_X11_isPerson [.ref 39, .int x] (k + 64, e, (mm_RM r), I, J, A, B) = some (.inl (some (.int (bi (cellP n x)))), (k + 64, e, (mm_RM r), I, J, A, B)) := by
  rw [en_X11_isPerson, sg_X11_isPerson_0, sp_Min, mm_aft_v, h]
  show mm_run _ (11, _, [.int (bi (rgP x 0 (i32 n - 1)))], _) = _
  rw [rg_cell (by omega), sg_X11_isPerson_11, if_pos (bi_ok _)]
theorem sp_Mdown (S : mm_S) {d : Int} (h1 : -900000 ≤ d) (h2 : d ≤ 900000) : f_X11_down [.int (si d)] S = some (.inl (some (.int (si (d / 25)))), S) := by
  rw [en_X11_down, sg_X11_down_0]
  by_cases q : d < 0
  · rw [if_pos (show si d < (0 : Int32) by rw [show (0 : Int32) = si 0 from rfl, si_ltr (by omega) (by omega) (by decide) (by decide)]; exact q), show (24 : Int32) = si 24 from rfl, si_sub, si_d25 (by omega) (by omega), if_neg (show ¬ 24 - d < 0 by omega), si_neg, sg_X11_down_19, show -((24 - d) / 25) = d / 25 by omega]
  · rw [if_neg (show ¬ si d < (0 : Int32) by rw [show (0 : Int32) = si 0 from rfl, si_ltr (by omega) (by omega) (by decide) (by decide)]; exact q), si_d25 (by omega) (by omega), if_neg q, sg_X11_down_19]
theorem sp_Mclimbs (h : I 39 31 = i32 n) (hn : n ≤ 10) (hA : ∀ p, p < n → A 59 p = i32 (pl p)) (hb : ∀ p, p < n → pl p ≤ 1000000) {w l : Nat} (hw : w < n) (hl : l < n) : ∃ A', f_X11_climbs [.ref 39, .int (i32 w), .int (i32 l)] (k + 64, e, (mm_RM r), I, J, A, B) = some (.inl none, (k + 64, e, (mm_RM r), I, J, A', B)) ∧ (∀ p, p < n → A' 59 p = i32 (plcV pl w l p)) ∧ (∀ i, i ≠ 59 → A' i = A i) := by
  have cin : ∀ {a : Nat}, a < n → (0 ≤ (i32 a).toInt ∧ (i32 a).toInt < 10) := fun {a} ha => (i32_in (by omega)).2 (by omega)
  have ix : ∀ {a : Nat}, a < n → (i32 a).toInt.toNat = a := fun {a} ha => i32_ix (by omega)
  have bw := hb w hw
  have bl := hb l hl
  rw [en_X11_climbs, sg_X11_climbs_0, if_pos (cin hl), if_pos (cin hw), ix hw, ix hl, hA w hw, hA l hl]
  by_cases c : pl l < pl w
  · have L : ∀ (dd i : Nat) (A1 : Nat → Nat → Int32), i + dd = n → (∀ p, p < n → A1 59 p = i32 (if p < i then (if pl l ≤ pl p ∧ pl p < pl w then pl p + 1 else pl p) else pl p)) → (∀ i, i ≠ 59 → A1 i = A i) → ∃ A', mm_run (mm_pr tb_X11_climbs) (24, [some (.ref 39), some (.int (i32 w)), some (.int (i32 l)), some (.int (i32 (pl l))), some (.int (i32 (pl w))), some (.int (i32 i))], [], (k + 64, e, (mm_RM r), I, J, A1, B)) = some (.inl none, (k + 64, e, (mm_RM r), I, J, A', B)) ∧ (∀ p, p < n → A' 59 p = i32 (if p = w then pl l else if pl l ≤ pl p ∧ pl p < pl w then pl p + 1 else pl p)) ∧ (∀ i, i ≠ 59 → A' i = A i) := by
      intro dd
      induction dd with
      | zero =>
        intro i A1 hi h1 h2
        refine ⟨mm_up A1 59 w (i32 (pl l)), ?_, fun p hp => ?_, fun j hj => by rw [mm_up_row _ _ _ _ _ hj]; exact h2 j hj⟩
        · rw [sg_X11_climbs_24, h, if_neg (by rw [i32_lt (by omega) (by omega)]; omega), if_pos (cin hw), ix hw, sg_X11_climbs_79]
        · by_cases y : p = w
          · subst y; rw [mm_up_eq, if_pos rfl]
          · rw [mm_up_ne2 _ _ _ _ _ _ y, if_neg y, h1 p hp, if_pos (by omega)]
      | succ dd ih =>
        intro i A1 hi h1 h2
        have hin : i < n := by omega
        have bi' := hb i hin
        have a1 := h1 i hin
        rw [if_neg (Nat.lt_irrefl _)] at a1
        obtain ⟨A', k1, k2⟩ := ih (i + 1) (mm_up A1 59 i (i32 (if pl l ≤ pl i ∧ pl i < pl w then pl i + 1 else pl i))) (by omega) (fun p hp => by
          by_cases y : p = i
          · subst y; rw [mm_up_eq, if_pos (show p < p + 1 by omega)]
          · rw [mm_up_ne2 _ _ _ _ _ _ y, h1 p hp]
            by_cases x : p < i
            · rw [if_pos x, if_pos (show p < i + 1 by omega)]
            · rw [if_neg x, if_neg (show ¬ p < i + 1 by omega)]) (fun j hj => by rw [mm_up_row _ _ _ _ _ hj]; exact h2 j hj)
        refine ⟨A', ?_, k2⟩
        rw [← k1, sg_X11_climbs_24, h, if_pos ((i32_lt (by omega) (by omega)).2 hin), if_pos (cin hin), if_pos (cin hin), ix hin, a1, show (1 : Int32) = i32 1 from rfl, i32_sub (by omega), sp_Min, mm_aft_v]
        show mm_run _ (56, _, [.int (bi (rgP (i32 (pl i)) (i32 (pl l)) (i32 (pl w - 1)))), _, _, _], _) = _
        rw [rg_ok (by omega) (by omega) (by omega), sg_X11_climbs_56]
        by_cases y : pl l ≤ pl i ∧ pl i < pl w
        · rw [decide_eq_true y.1, decide_eq_true (show pl i ≤ pl w - 1 by omega), if_neg (show ¬ bi (true && true) = 0 by decide), sg_X11_climbs_64, if_pos (cin hin), ix hin, if_pos y]
          simp only [i32_l]
          rw [i32_add, i32_add]
        · have : (decide (pl l ≤ pl i) && decide (pl i ≤ pl w - 1)) = false := by
            by_cases z : pl l ≤ pl i
            · rw [decide_eq_false (show ¬ pl i ≤ pl w - 1 by omega), Bool.and_false]
            · rw [decide_eq_false z, Bool.false_and]
          rw [this, if_pos (show bi false = 0 from rfl), sg_X11_climbs_64, if_pos (cin hin), ix hin, if_neg y]
          simp only [i32_l]
          rw [i32_add, i32_add]
          rfl
    obtain ⟨A', k1, k2, k3⟩ := L n 0 A (by omega) (fun p hp => by rw [if_neg (Nat.not_lt_zero _)]; exact hA p hp) (fun _ _ => rfl)
    refine ⟨A', ?_, fun p hp => ?_, k3⟩
    · rw [if_pos ((i32_lt (by omega) (by omega)).2 c)]
      exact k1
    · rw [k2 p hp]
      unfold plcV
      rw [if_pos c]
  · refine ⟨A, ?_, fun p hp => ?_, fun _ _ => rfl⟩
    · rw [if_neg (fun z => c ((i32_lt (by omega) (by omega)).1 z)), sg_X11_climbs_79]
    · unfold plcV
      rw [if_neg c]
      exact hA p hp
theorem cM_person_no (h : LM n ra pl wo ls I A) (hn : ¬ n < 10) : f_X11_person [.ref 39] (k + 64, e, (mm_RM r), I, J, A, B) = some (.inl (some (.int (i32 0))), (k + 64, e, (mm_RM r), mm_up I 39 39 (i32 1), J, A, B)) := by
  have := h.2.1
  rw [en_X11_person, sg_X11_person_0, h.1, if_neg (show ¬ i32 n < (10 : Int32) from fun z => hn ((i32_lt (b := 10) (by omega) (by decide)).1 z)), sg_X11_person_15]
  show mm_aft _ 18 _ _ (f_X11_asks [.ref 39, .int (bi false)] _) = _
  rw [sp_Masks, mm_aft_v, sg_X11_person_18, if_pos (show bi false = 0 from rfl)]
  rfl
theorem cM_person (h : LM n ra pl wo ls I A) {c : Nat} (hb : LB n ra pl wo ls c) (hn : n < 10) : ∃ I' A', f_X11_person [.ref 39] (k + 64, e, (mm_RM r), I, J, A, B) = some (.inl (some (.int (i32 n))), (k + 64, e, (mm_RM r), I', J, A', B)) ∧ I' 39 39 = i32 0 ∧ LM (n + 1) (raN ra n) (upN pl n n) wo ls I' A' ∧ FK I I' A A' ∧ I' 39 14 = I 39 14 := by
  have cin : (0 ≤ (i32 n).toInt ∧ (i32 n).toInt < 10) := (i32_in (by omega)).2 (by omega)
  have ix : (i32 n).toInt.toNat = n := i32_ix (by omega)
  have z := hb.2 n (Nat.le_refl _)
  have h31 : mm_up I 39 39 (i32 0) 39 31 = i32 n := by rw [mm_up_ne2 _ _ _ _ _ _ (by decide)]; exact h.1
  refine ⟨mm_up (mm_up I 39 39 (i32 0)) 39 31 (i32 (n + 1)), mm_up (mm_up (mm_up (mm_up A 58 n (1000 : Int32)) 59 n (i32 n)) 60 n (i32 0)) 61 n (i32 0), ?_, ?_, ⟨by rw [mm_up_eq], by omega, fun p hp => ?_, fun p hp => ?_⟩, ⟨fun i h2 => ?_, fun p h1 h2 h3 => ?_, fun i h1 h2 h3 h4 => ?_⟩, ?_⟩
  · rw [en_X11_person, sg_X11_person_0, h.1, if_pos (show i32 n < (10 : Int32) from (i32_lt (b := 10) (by omega) (by decide)).2 hn), sg_X11_person_15]
    show mm_aft _ 18 _ _ (f_X11_asks [.ref 39, .int (bi true)] _) = _
    rw [sp_Masks, mm_aft_v, sg_X11_person_18, if_neg (show ¬ bi true = 0 by decide), show bi (!true) = i32 0 from rfl, h31, if_pos cin, if_pos cin, if_pos cin, if_pos cin, ix]
    simp only [i32_l]
    rw [i32_add, i32_sub (by omega), Nat.add_sub_cancel]
  · rw [mm_up_ne2 _ _ _ _ _ _ (by decide), mm_up_eq]
  · unfold raN upN
    refine ⟨?_, ?_⟩
    · rw [mm_up_ne1 _ _ _ _ _ _ (by decide), mm_up_ne1 _ _ _ _ _ _ (by decide), mm_up_ne1 _ _ _ _ _ _ (by decide)]
      by_cases q : p = n
      · subst q; rw [mm_up_eq, if_pos rfl]; rfl
      · rw [mm_up_ne2 _ _ _ _ _ _ q, if_neg q]; exact (h.2.2.1 p (by omega)).1
    · rw [mm_up_ne1 _ _ _ _ _ _ (by decide), mm_up_ne1 _ _ _ _ _ _ (by decide)]
      by_cases q : p = n
      · subst q; rw [mm_up_eq, if_pos rfl]
      · rw [mm_up_ne2 _ _ _ _ _ _ q, mm_up_ne1 _ _ _ _ _ _ (by decide), if_neg q]; exact (h.2.2.1 p (by omega)).2
  · refine ⟨?_, ?_⟩
    · rw [mm_up_ne1 _ _ _ _ _ _ (by decide)]
      by_cases q : p = n
      · subst q; rw [mm_up_eq, z.1]
      · rw [mm_up_ne2 _ _ _ _ _ _ q, mm_up_ne1 _ _ _ _ _ _ (by decide), mm_up_ne1 _ _ _ _ _ _ (by decide)]; exact (h.2.2.2 p (by omega)).1
    · by_cases q : p = n
      · subst q; rw [mm_up_eq, z.2]
      · rw [mm_up_ne2 _ _ _ _ _ _ q, mm_up_ne1 _ _ _ _ _ _ (by decide), mm_up_ne1 _ _ _ _ _ _ (by decide), mm_up_ne1 _ _ _ _ _ _ (by decide)]; exact (h.2.2.2 p (by omega)).2
  · rw [mm_up_row _ _ _ _ _ h2, mm_up_row _ _ _ _ _ h2]
  · rw [mm_up_ne2 _ _ _ _ _ _ h2, mm_up_ne2 _ _ _ _ _ _ h3]
  · rw [mm_up_row _ _ _ _ _ h4, mm_up_row _ _ _ _ _ h3, mm_up_row _ _ _ _ _ h2, mm_up_row _ _ _ _ _ h1]
  · rw [mm_up_ne2 _ _ _ _ _ _ (by decide), mm_up_ne2 _ _ _ _ _ _ (by decide)]
theorem cM_ofPerson_1 (h : LM n ra pl wo ls I A) {x y : Int32} (hx : cellP n x = false) : f_X11_ofPerson [.ref 39, .int x, .int y] (k + 64, e, (mm_RM r), I, J, A, B) = some (.inl (some (.int (i32 0))), (k + 64, e, (mm_RM r), mm_up I 39 39 (i32 1), J, A, B)) := by
  rw [en_X11_ofPerson, sg_X11_ofPerson_0, sp_MisPerson k r e I J A B h.1 h.2.1, mm_aft_v, hx, sg_X11_ofPerson_6, sp_Masks, mm_aft_v, sg_X11_ofPerson_9, if_pos (show bi false = 0 from rfl)]
  rfl
theorem cM_ofPerson_2 (h : LM n ra pl wo ls I A) {x y : Int32} (hx : cellP n x = true) (hy : rgP y 0 3 = false) : f_X11_ofPerson [.ref 39, .int x, .int y] (k + 64, e, (mm_RM r), I, J, A, B) = some (.inl (some (.int (i32 0))), (k + 64, e, (mm_RM r), mm_up (mm_up I 39 39 (i32 0)) 39 39 (i32 2), J, A, B)) := by
  have c : y.toInt < 0 ∨ 3 < y.toInt := by
    rcases rg_no hy with q | q
    · rw [Int32.lt_iff_toInt_lt] at q; exact Or.inl q
    · rw [Int32.lt_iff_toInt_lt] at q; exact Or.inr q
  rw [en_X11_ofPerson, sg_X11_ofPerson_0, sp_MisPerson k r e I J A B h.1 h.2.1, mm_aft_v, hx, sg_X11_ofPerson_6, sp_Masks, mm_aft_v, sg_X11_ofPerson_9, if_neg (show ¬ bi true = 0 by decide), if_pos c, sg_X11_ofPerson_72, sp_Mfails, mm_aft_v, sg_X11_ofPerson_77]
  rfl
theorem cM_ofPerson (h : LM n ra pl wo ls I A) {p w : Nat} (hp : p < n) (hw : w ≤ 3) : f_X11_ofPerson [.ref 39, .int (i32 p), .int (i32 w)] (k + 64, e, (mm_RM r), I, J, A, B) = some (.inl (some (.int (shV ra pl wo ls p w))), (k + 64, e, (mm_RM r), mm_up I 39 39 (i32 0), J, A, B)) := by
  have hn := h.2.1
  have cin : (0 ≤ (i32 p).toInt ∧ (i32 p).toInt < 10) := (i32_in (by omega)).2 (by omega)
  have ix : (i32 p).toInt.toNat = p := i32_ix (by omega)
  have g := h.2.2.1 p hp
  have g2 := h.2.2.2 p hp
  rw [en_X11_ofPerson, sg_X11_ofPerson_0, sp_MisPerson k r e I J A B h.1 h.2.1, mm_aft_v, cellP_i (by omega) (by omega), decide_eq_true hp, sg_X11_ofPerson_6, sp_Masks, mm_aft_v, sg_X11_ofPerson_9, if_neg (show ¬ bi true = 0 by decide), show bi (!true) = i32 0 from rfl]
  unfold shV
  have : w = 0 ∨ w = 1 ∨ w = 2 ∨ w = 3 := by omega
  rcases this with q | q | q | q
  · subst q
    show mm_run _ (44, _, _, _) = _
    rw [sg_X11_ofPerson_44, if_pos cin, ix, g.1]; rfl
  · subst q
    show mm_run _ (51, _, _, _) = _
    rw [sg_X11_ofPerson_51, if_pos cin, ix, g.2]; rfl
  · subst q
    show mm_run _ (58, _, _, _) = _
    rw [sg_X11_ofPerson_58, if_pos cin, ix, g2.1]; rfl
  · subst q
    show mm_run _ (65, _, _, _) = _
    rw [sg_X11_ofPerson_65, if_pos cin, ix, g2.2]; rfl
theorem cM_record_ask (h : LM n ra pl wo ls I A) (x y : Int32) : f_X11_record [.ref 39, .int x, .int y] (k + 64, e, (mm_RM r), I, J, A, B) = mm_run (mm_pr tb_X11_record) (25, [some (.ref 39), some (.int x), some (.int y), none, none, none], [.int (bi (cellP n x && cellP n y))], (k + 64, e, (mm_RM r), mm_up I 39 39 (bi (!(cellP n x && cellP n y))), J, A, B)) := by
  have t22 : ∀ b : Bool, mm_run (mm_pr tb_X11_record) (22, [some (.ref 39), some (.int x), some (.int y), none, none, none], [.int (bi b), .ref 39], (k + 64, e, (mm_RM r), I, J, A, B)) = mm_run (mm_pr tb_X11_record) (25, [some (.ref 39), some (.int x), some (.int y), none, none, none], [.int (bi b)], (k + 64, e, (mm_RM r), mm_up I 39 39 (bi (!b)), J, A, B)) := by
    intro b
    rw [sg_X11_record_22, sp_Masks, mm_aft_v]
  rw [en_X11_record, sg_X11_record_0, sp_MisPerson k r e I J A B h.1 h.2.1, mm_aft_v, sg_X11_record_6]
  cases q : cellP n x with
  | false => rw [if_pos (show bi false = 0 from rfl), sg_X11_record_21, Bool.false_and]; exact t22 false
  | true =>
    rw [if_neg (show ¬ bi true = 0 by decide), sp_MisPerson k r e I J A B h.1 h.2.1, mm_aft_v, sg_X11_record_14, Bool.true_and]
    cases q2 : cellP n y with
    | false => rw [if_pos (show bi false = 0 from rfl), sg_X11_record_21]; exact t22 false
    | true => rw [if_neg (show ¬ bi true = 0 by decide)]; exact t22 true
theorem cM_record_1 (h : LM n ra pl wo ls I A) {x y : Int32} (hx : (cellP n x && cellP n y) = false) : f_X11_record [.ref 39, .int x, .int y] (k + 64, e, (mm_RM r), I, J, A, B) = some (.inl (some (.int (i32 0))), (k + 64, e, (mm_RM r), mm_up I 39 39 (i32 1), J, A, B)) := by
  rw [cM_record_ask k r e I J A B h, hx, sg_X11_record_25, if_pos (show bi false = 0 from rfl)]
  rfl
theorem cM_record_2 (h : LM n ra pl wo ls I A) {x : Int32} (hx : cellP n x = true) : f_X11_record [.ref 39, .int x, .int x] (k + 64, e, (mm_RM r), I, J, A, B) = some (.inl (some (.int (i32 0))), (k + 64, e, (mm_RM r), mm_up (mm_up I 39 39 (i32 0)) 39 39 (i32 2), J, A, B)) := by
  rw [cM_record_ask k r e I J A B h, hx, show (true && true) = true from rfl, sg_X11_record_25, if_neg (show ¬ bi true = 0 by decide), if_pos rfl, sp_Mfails, mm_aft_v, sg_X11_record_40]
  rfl
theorem cM_record_3 (g : MG K R C lg m sw I A B) (t : TM ea tk se pe us lo I A) (hl : lo ≤ 2) (h : LM n ra pl wo ls I A) (hr : I 39 14 = bi rc) {x y : Int32} (hx : cellP n x = true) (hy : cellP n y = true) (hxy : x ≠ y) (no : wnr K R C lg m sw lo = iN ∨ rc = true) : f_X11_record [.ref 39, .int x, .int y] (k + 64, e, (mm_RM r), I, J, A, B) = some (.inl (some (.int (i32 0))), (k + 64, e, (mm_RM r), mm_up (mm_up I 39 39 (i32 0)) 39 39 (i32 3), J, A, B)) := by
  have hG := g.fr (FM.th I J A B (i32 0))
  have tG := TM.th I A (x := i32 0) t
  rw [cM_record_ask k r e I J A B h, hx, hy, show (true && true) = true from rfl, show bi (!true) = i32 0 from rfl, sg_X11_record_25, if_neg (show ¬ bi true = 0 by decide), if_neg hxy, sp_MwinnerG k r e _ J A B hG tG hl, mm_aft_v, sg_X11_record_45, sg_X11_record_56, sp_Mfails, mm_aft_v, sg_X11_record_61]
  by_cases q : wnr K R C lg m sw lo = iN
  · rw [if_pos (show wnr K R C lg m sw lo = (-1 : Int32) from q)]; rfl
  · rw [if_neg (show ¬ wnr K R C lg m sw lo = (-1 : Int32) from q), mm_up_ne2 _ _ _ _ _ _ (by decide), hr, no.resolve_left q, if_neg (show ¬ bi true = 0 by decide)]; rfl
theorem cM_record (g : MG K R C lg m sw I A B) (t : TM ea tk se pe us lo I A) (hlo : lo ≤ 2) (h : LM n ra pl wo ls I A) {c : Nat} (hb : LB n ra pl wo ls c) (hc : c ≤ 10000) (hr : I 39 14 = bi false) {x y : Nat} (hx : x < n) (hy : y < n) (hxy : x ≠ y) (hw : ¬ wnr K R C lg m sw lo = iN) {w l : Nat} (hwl : (wnr K R C lg m sw lo = i32 0 ∧ w = x ∧ l = y) ∨ (¬ wnr K R C lg m sw lo = i32 0 ∧ w = y ∧ l = x)) : ∃ I' A', f_X11_record [.ref 39, .int (i32 x), .int (i32 y)] (k + 64, e, (mm_RM r), I, J, A, B) = some (.inl (some (.int (si (raV ra w l w)))), (k + 64, e, (mm_RM r), I', J, A', B)) ∧ I' 39 39 = i32 0 ∧ LM n (raV ra w l) (plcV pl w l) (upN wo w (wo w + 1)) (upN ls l (ls l + 1)) I' A' ∧ FK I I' A A' ∧ I' 39 14 = bi true := by
  have hn := h.2.1
  have cx : cellP n (i32 x) = true := by rw [cellP_i (by omega) (by omega), decide_eq_true hx]
  have cy : cellP n (i32 y) = true := by rw [cellP_i (by omega) (by omega), decide_eq_true hy]
  have hw1 : w < n := by rcases hwl with z | z <;> omega
  have hl1 : l < n := by rcases hwl with z | z <;> omega
  have hne : w ≠ l := by rcases hwl with z | z <;> omega
  obtain ⟨I1, hI1⟩ : ∃ I1, I1 = mm_up (mm_up I 39 39 (i32 0)) 39 14 (1 : Int32) := ⟨_, rfl⟩
  have f1 : ∀ p, p ≠ 14 → p ≠ 39 → I1 39 p = I 39 p := fun p h1 h2 => by rw [hI1, mm_up_ne2 _ _ _ _ _ _ h1, mm_up_ne2 _ _ _ _ _ _ h2]
  have hG := g.fr (FM.th I J A B (i32 0))
  have tG := TM.th I A (x := i32 0) t
  have hG1 : MG K R C lg m sw I1 A B := g.low I A B (fun p hp => f1 p (by omega) (by omega)) (fun _ _ => rfl) rfl (fun _ _ => rfl)
  have tG1 : TM ea tk se pe us lo I1 A := ⟨fun z => by rw [f1 16 (by decide) (by decide)]; exact t.1 z, by rw [f1 15 (by decide) (by decide)]; exact t.2.1, by rw [f1 13 (by decide) (by decide)]; exact t.2.2.1, t.2.2.2⟩
  have h31 : I1 39 31 = i32 n := by rw [f1 31 (by decide) (by decide)]; exact h.1
  have cin : ∀ {a : Nat}, a < n → (0 ≤ (i32 a).toInt ∧ (i32 a).toInt < 10) := fun {a} ha => (i32_in (by omega)).2 (by omega)
  have ix : ∀ {a : Nat}, a < n → (i32 a).toInt.toNat = a := fun {a} ha => i32_ix (by omega)
  have bw := hb.1 w hw1
  have bl := hb.1 l hl1
  have rg := chg_rg (ra w - ra l)
  have h3 := h.2.2.1
  have h4 := h.2.2.2
  obtain ⟨A1, hA1⟩ : ∃ A1, A1 = mm_up (mm_up (mm_up (mm_up A 58 w (si (ra w) + si (chg (ra w - ra l)))) 58 l (si (ra l) - si (chg (ra w - ra l)))) 60 w (i32 (wo w + 1))) 61 l (i32 (ls l + 1)) := ⟨_, rfl⟩
  have a59 : ∀ p, p < n → A1 59 p = i32 (pl p) := fun p hp => by
    rw [hA1, mm_up_ne1 _ _ _ _ _ _ (by decide), mm_up_ne1 _ _ _ _ _ _ (by decide), mm_up_ne1 _ _ _ _ _ _ (by decide), mm_up_ne1 _ _ _ _ _ _ (by decide)]
    exact (h3 p hp).2
  obtain ⟨A2, b1, b2, b3⟩ := sp_Mclimbs k r e I1 J A1 B h31 hn a59 (fun p hp => by have := (hb.1 p hp).2.2; omega) hw1 hl1
  have r58 : ∀ p, p < n → A2 58 p = si (raV ra w l p) := fun p hp => by
    rw [b3 58 (by decide), hA1, mm_up_ne1 _ _ _ _ _ _ (by decide), mm_up_ne1 _ _ _ _ _ _ (by decide)]
    unfold raV
    by_cases y : p = l
    · subst y
      rw [mm_up_eq, if_neg (fun z => hne z.symm), if_pos rfl, si_sub]
    · rw [mm_up_ne2 _ _ _ _ _ _ y]
      by_cases x : p = w
      · subst x; rw [mm_up_eq, if_pos rfl, si_add]
      · rw [mm_up_ne2 _ _ _ _ _ _ x, if_neg x, if_neg y]
        exact (h3 p hp).1
  have t140 : ∀ x5, mm_run (mm_pr tb_X11_record) (140, [some (.ref 39), some (.int (i32 x)), some (.int (i32 y)), some (.int (i32 w)), some (.int (i32 l)), some (.int x5)], [.int (si (chg (ra w - ra l)))], (k + 64, e, (mm_RM r), I1, J, A, B)) = some (.inl (some (.int (si (raV ra w l w)))), (k + 64, e, (mm_RM r), I1, J, A2, B)) := by
    intro x5
    rw [sg_X11_record_140, if_pos (cin hw1), if_pos (cin hw1), if_pos (cin hl1), if_pos (cin hl1), if_pos (cin hw1), if_pos (cin hw1), if_pos (cin hl1), if_pos (cin hl1), ix hw1, ix hl1, mm_up_ne2 _ _ _ _ _ _ (fun z => hne z.symm), (h3 w hw1).1, (h3 l hl1).1, (h4 w hw1).1, (h4 l hl1).2]
    simp only [i32_l]
    rw [i32_add, i32_add, ← hA1, b1, mm_aft_n, sg_X11_record_193, if_pos (cin hw1), ix hw1, r58 w hw1]
  have t113 : mm_run (mm_pr tb_X11_record) (113, [some (.ref 39), some (.int (i32 x)), some (.int (i32 y)), some (.int (i32 w)), some (.int (i32 l)), none], [.int (si ((ra w - ra l) / 25)), .int (16 : Int32)], (k + 64, e, (mm_RM r), I1, J, A, B)) = some (.inl (some (.int (si (raV ra w l w)))), (k + 64, e, (mm_RM r), I1, J, A2, B)) := by
    rw [sg_X11_record_113, show (16 : Int32) = si 16 from rfl, si_sub, show (1 : Int32) = si 1 from rfl, show (31 : Int32) = si 31 from rfl]
    have un : chg (ra w - ra l) = if 16 - (ra w - ra l) / 25 < 1 then 1 else if 31 < 16 - (ra w - ra l) / 25 then 31 else 16 - (ra w - ra l) / 25 := rfl
    by_cases q1 : 16 - (ra w - ra l) / 25 < 1
    · rw [if_pos ((si_ltr (by omega) (by omega) (by decide) (by decide)).2 q1)]
      rw [if_pos q1] at un
      rw [← t140 (si (16 - (ra w - ra l) / 25)), un]
    · rw [if_neg (fun z => q1 ((si_ltr (by omega) (by omega) (by decide) (by decide)).1 z))]
      rw [if_neg q1] at un
      by_cases q2 : 31 < 16 - (ra w - ra l) / 25
      · rw [if_pos ((si_ltr (by decide) (by decide) (by omega) (by omega)).2 q2)]
        rw [if_pos q2] at un
        rw [← t140 (si (16 - (ra w - ra l) / 25)), un]
      · rw [if_neg (fun z => q2 ((si_ltr (by decide) (by decide) (by omega) (by omega)).1 z))]
        rw [if_neg q2] at un
        rw [← t140 (si (16 - (ra w - ra l) / 25)), un]
  have t92 : mm_run (mm_pr tb_X11_record) (92, [some (.ref 39), some (.int (i32 x)), some (.int (i32 y)), some (.int (i32 w)), none, none], [.int (i32 l)], (k + 64, e, (mm_RM r), I1, J, A, B)) = some (.inl (some (.int (si (raV ra w l w)))), (k + 64, e, (mm_RM r), I1, J, A2, B)) := by
    rw [sg_X11_record_92, if_pos (cin hw1), if_pos (cin hl1), ix hw1, ix hl1, (h3 w hw1).1, (h3 l hl1).1, si_sub, sp_Mdown _ (by omega) (by omega), mm_aft_v]
    exact t113
  refine ⟨I1, A2, ?_, ?_, ⟨h31, hn, fun p hp => ⟨r58 p hp, b2 p hp⟩, fun p hp => ?_⟩, ⟨fun i hi => ?_, fun p p1 p2 p3 => f1 p p1 p3, fun i i1 i2 i3 i4 => ?_⟩, ?_⟩
  · rw [cM_record_ask k r e I J A B h, cx, cy, show (true && true) = true from rfl, show bi (!true) = i32 0 from rfl, sg_X11_record_25, if_neg (show ¬ bi true = 0 by decide), if_neg (fun z => hxy ((i32_eq (by omega) (by omega)).1 z)), sp_MwinnerG k r e _ J A B hG tG hlo, mm_aft_v, sg_X11_record_45, if_neg (show ¬ wnr K R C lg m sw lo = (-1 : Int32) from hw), mm_up_ne2 _ _ _ _ _ _ (by decide), hr, if_pos (show bi false = 0 from rfl), ← hI1, sp_MwinnerG k r e I1 J A B hG1 tG1 hlo, mm_aft_v, sg_X11_record_71]
    rcases hwl with ⟨z1, z2, z3⟩ | ⟨z1, z2, z3⟩
    · rw [if_pos (show wnr K R C lg m sw lo = 0 from z1), sg_X11_record_79, sp_MwinnerG k r e I1 J A B hG1 tG1 hlo, mm_aft_v, sg_X11_record_84, if_pos (show wnr K R C lg m sw lo = 0 from z1)]
      rw [← t92, z2, z3]
    · rw [if_neg (show ¬ wnr K R C lg m sw lo = 0 from z1), sg_X11_record_79, sp_MwinnerG k r e I1 J A B hG1 tG1 hlo, mm_aft_v, sg_X11_record_84, if_neg (show ¬ wnr K R C lg m sw lo = 0 from z1)]
      rw [← t92, z2, z3]
  · rw [hI1, mm_up_ne2 _ _ _ _ _ _ (by decide), mm_up_eq]
  · rw [b3 60 (by decide), b3 61 (by decide), hA1, mm_up_ne1 _ _ _ _ _ _ (by decide)]
    have g := h4 p hp
    unfold upN
    refine ⟨?_, ?_⟩
    · by_cases y : p = w
      · subst y; rw [mm_up_eq, if_pos rfl]
      · rw [mm_up_ne2 _ _ _ _ _ _ y, mm_up_ne1 _ _ _ _ _ _ (by decide), mm_up_ne1 _ _ _ _ _ _ (by decide), if_neg y]; exact g.1
    · by_cases y : p = l
      · subst y; rw [mm_up_eq, if_pos rfl]
      · rw [mm_up_ne2 _ _ _ _ _ _ y, mm_up_ne1 _ _ _ _ _ _ (by decide), mm_up_ne1 _ _ _ _ _ _ (by decide), mm_up_ne1 _ _ _ _ _ _ (by decide), if_neg y]; exact g.2
  · rw [hI1, mm_up_row _ _ _ _ _ hi, mm_up_row _ _ _ _ _ hi]
  · rw [b3 i i2, hA1, mm_up_row _ _ _ _ _ i4, mm_up_row _ _ _ _ _ i3, mm_up_row _ _ _ _ _ i1, mm_up_row _ _ _ _ _ i1]
  · rw [hI1, mm_up_eq]; rfl
end
