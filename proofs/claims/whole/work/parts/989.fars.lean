/-! how far it is: both sides' calls -/
section
variable {K R C : Nat} {lg : Nat → Nat} {m : Nat} {sw : Bool}
theorem sN_disj (w : WG K R C lg m sw) {p : Nat} (hp : p < 2) (c : Nat) (h : mb (sN lg m sw p) c = true) : mb (sN lg m sw (1 - p)) c = false := by
  have h64 : ∀ i, i < m → lg i < 64 := fun i hi => by have := w.n36 i hi; omega
  have t : p = 0 ∨ p = 1 := by omega
  rcases t with q | q
  · subst q; exact stN_disj lg (kf sw m) m h64 w.2.2.1 c h
  · subst q
    cases y : mb (sN lg m sw (1 - 1)) c with
    | false => rfl
    | true => rw [stN_disj lg (kf sw m) m h64 w.2.2.1 c y] at h; cases h
theorem emp_p (w : WG K R C lg m sw) {p : Nat} (hp : p < 2) (c : Nat) : mb (emp (bN K R C) (sN lg m sw 0) (sN lg m sw 1)) c = true ↔ (c < bN K R C ∧ mb (sN lg m sw p) c = false ∧ mb (sN lg m sw (1 - p)) c = false) := by
  have hE := emp_EH (bN_le w.1) (sN lg m sw 0) (sN lg m sw 1) c
  have t : p = 0 ∨ p = 1 := by omega
  rcases t with q | q
  · subst q; exact hE
  · subst q
    rw [hE]
    exact ⟨fun z => ⟨z.1, z.2.2, z.2.1⟩, fun z => ⟨z.1, z.2.2, z.2.1⟩⟩
theorem psw_p (w : WG K R C lg m sw) {p : Nat} (hp : p < 2) {c : Nat} (hc : c < bN K R C) : psw (sN lg m sw p) (emp (bN K R C) (sN lg m sw 0) (sN lg m sw 1)) c ↔ mb (sN lg m sw (1 - p)) c = false := by
  constructor
  · rintro (q | q)
    · exact sN_disj w hp c q
    · exact ((emp_p w hp c).1 q).2.2
  · intro q
    cases y : mb (sN lg m sw p) c with
    | true => exact Or.inl y
    | false => exact Or.inr ((emp_p w hp c).2 ⟨hc, y, q⟩)
theorem emp_own (w : WG K R C lg m sw) {p : Nat} (hp : p < 2) (c : Nat) (h1 : mb (sN lg m sw p) c = true) (h2 : mb (emp (bN K R C) (sN lg m sw 0) (sN lg m sw 1)) c = true) : False := by
  rw [((emp_p w hp c).1 h2).2.1] at h1; cases h1
end
section
variable {K R C : Nat} {lg : Nat → Nat} {m : Nat} {sw : Bool} (e : Nat) (I : Nat → Nat → Int32) (J : Nat → Nat → Int64) (A : Nat → Nat → Int32) (B : Nat → Nat → Int64)
theorem cC_far_1 {x : Int32} (hx : plaP x = false) : f_X10_far [.ref 0, .int x] (65, e, mm_R0, I, J, A, B) = some (.inr 1, (65, e + 1, mm_R0, I, J, A, B)) := by
  rw [en_X10_far, sg_X10_far_0, sp_isPlayerP, hx, mm_aft_v, sg_X10_far_4, if_pos (show bi false = 0 from rfl)]
theorem plaP_i {p : Nat} (hp : p < 2) : plaP (i32 p) = true := by
  have t : p = 0 ∨ p = 1 := by omega
  rcases t with q | q <;> (subst q; rfl)
theorem cC_far_3 (h : CG 2 R C lg m sw I J A B) : f_X10_far [.ref 0, .int (i32 1)] (65, e, mm_R0, I, J, A, B) = some (.inr 3, (65, e + 1, mm_R0, I, J, A, B)) := by
  rw [en_X10_far, sg_X10_far_0, sp_isPlayerP, plaP_i (by decide), mm_aft_v, sg_X10_far_4, if_neg (show ¬ bi true = 0 by decide), if_pos (show i32 1 = 1 from rfl), h.1.kind, if_pos (show i32 2 = 2 from rfl)]
theorem cC_far (h : CG K R C lg m sw I J A B) (w : WG K R C lg m sw) {p : Nat} (hp : p < 2) (hk : ¬ (p = 1 ∧ K = 2)) : ∃ A', f_X10_far [.ref 0, .int (i32 p)] (65, e, mm_R0, I, J, A, B) = some (.inl (some (.int (farA K R C p (sN lg m sw p) (emp (bN K R C) (sN lg m sw 0) (sN lg m sw 1))))), (65, e, mm_R0, I, J, A', B)) ∧ BQ K R C I J A' B ∧ FC I I J J A A' B B := by
  have hb := h.1
  have hK := bV_K w.1
  have st : f_X10_far [.ref 0, .int (i32 p)] (65, e, mm_R0, I, J, A, B) = mm_aft (mm_pr tb_X10_far) 68 [some (.ref 0), some (.int (i32 p))] [] (f_X9_fewest [.ref 21, .int (i32 p), .long (sN lg m sw p), .long (emp (bN K R C) (sN lg m sw 0) (sN lg m sw 1))] (65, e, mm_R0, I, J, A, B)) := by
    rw [en_X10_far, sg_X10_far_0, sp_isPlayerP, plaP_i hp, mm_aft_v, sg_X10_far_4, if_neg (show ¬ bi true = 0 by decide)]
    have t45 : mm_run (mm_pr tb_X10_far) (45, [some (.ref 0), some (.int (i32 p))], [], (65, e, mm_R0, I, J, A, B)) = mm_aft (mm_pr tb_X10_far) 68 [some (.ref 0), some (.int (i32 p))] [] (f_X9_fewest [.ref 21, .int (i32 p), .long (sN lg m sw p), .long (emp (bN K R C) (sN lg m sw 0) (sN lg m sw 1))] (65, e, mm_R0, I, J, A, B)) := by
      rw [sg_X10_far_45, sp0_stones e I J A B h hp, mm_aft_v, sg_X10_far_58, sp0_empty e I J A B h, mm_aft_v, sg_X10_far_65]
    rw [t45, hb.kind]
    by_cases q : i32 p = (1 : Int32)
    · rw [if_pos q, if_neg (show ¬ i32 K = (2 : Int32) from fun z => hk ⟨(i32_eq (b := 1) (by omega) (by decide)).1 q, (i32_eq (b := 2) (by omega) (by decide)).1 z⟩)]
    · rw [if_neg q]
  have fin : ∀ A' : Nat → Nat → Int32, (∀ i, i ≠ 22 → A' i = A i) → BQ K R C I J A' B ∧ FC I I J J A A' B B := fun A' f3 =>
    ⟨BQ.fr I J A B h.2.2.2.2.2.1 rfl rfl rfl rfl rfl (f3 2 (by decide)) (f3 3 (by decide)) (f3 4 (by decide)) (f3 11 (by decide)) (f3 12 (by decide)) (f3 13 (by decide)) (f3 14 (by decide)) rfl rfl, ⟨fun _ _ _ _ _ => rfl, fun _ _ _ _ => rfl, fun i _ _ _ _ _ _ g => f3 i g, fun _ => rfl⟩⟩
  have ed := emp_own w hp
  have eN : ∀ c, mb (emp (bN K R C) (sN lg m sw 0) (sN lg m sw 1)) c = true → c < bN K R C := fun c hc => ((emp_p w hp c).1 hc).1
  rw [st]
  generalize emp (bN K R C) (sN lg m sw 0) (sN lg m sw 1) = fr at ed eN ⊢
  have last : ∀ (A' : Nat → Nat → Int32) (x : Nat), x ≤ 1000 → mm_run (mm_pr tb_X9_fewest) (46, [some (.ref 21), some (.int (i32 p)), some (.long (sN lg m sw p)), none, some (.long fr), none, none], [.int (i32 x)], (65, e, mm_R0, I, J, A', B)) = some (.inl (some (.int (if x < 1000 then i32 x else iN))), (65, e, mm_R0, I, J, A', B)) := by
    intro A' x hx
    rw [sg_X9_fewest_46]
    by_cases q : x < 1000
    · rw [if_pos q]
      simp (disch := omega) only [i32_l, iN_l, i32_add, i32_mul, i32_r0, i32_r1, run_bi, run_bi', i32_sub, decide_eq_true_eq, bi_rt, bi_em, bi_0, bi_1, i32_lt, i32_eq, iN_ne, iN_lt, iN_nlt, i32_ix, i32_in,  mm_aft_v, mm_aft_n, mm_aft_x, if_pos, if_neg, ite_true, ite_false, if_true, if_false, not_false_eq_true, not_true_eq_false, q, sg_X9_fewest_62]
    · rw [if_neg q]
      simp (disch := omega) only [i32_l, iN_l, i32_add, i32_mul, i32_r0, i32_r1, run_bi, run_bi', i32_sub, decide_eq_true_eq, bi_rt, bi_em, bi_0, bi_1, i32_lt, i32_eq, iN_ne, iN_lt, iN_nlt, i32_ix, i32_in,  mm_aft_v, mm_aft_n, mm_aft_x, if_pos, if_neg, ite_true, ite_false, if_true, if_false, not_false_eq_true, not_true_eq_false, q, sg_X9_fewest_62]
  by_cases k1 : K = 1
  · obtain ⟨A', a1, a2⟩ := sp_fewest3 e I J B A hb (sN lg m sw p) fr ed eN
    refine ⟨A', ?_, fin A' a2⟩
    unfold farA
    rw [if_pos k1, en_X9_fewest, sg_X9_fewest_0, hb.kind, if_pos (by rw [k1]; rfl), a1, mm_aft_v, sg_X9_fewest_18, last A' (far3 K R C (sN lg m sw p) fr) (mn_le1 _ _ _), mm_aft_v, sg_X10_far_68]
  · have t : p = 0 ∨ p = 1 := by omega
    rcases t with q | q
    · subst q
      obtain ⟨A', a1, a2⟩ := sp_fewest2 e I J B A hb (s := 0) (by decide) (sN lg m sw 0) fr ed eN
      refine ⟨A', ?_, fin A' a2⟩
      unfold farA
      rw [if_neg k1, if_pos rfl, en_X9_fewest, sg_X9_fewest_0, hb.kind, if_neg (show ¬ i32 K = (1 : Int32) from fun z => k1 ((i32_eq (b := 1) (by omega) (by decide)).1 z)), if_pos (show i32 0 = 0 from rfl)]
      simp only [i32_l]
      rw [a1, mm_aft_v, sg_X9_fewest_34, last A' (far2 K R C (sN lg m sw 0) fr 0) (mn_le1 _ _ _), mm_aft_v, sg_X10_far_68]
    · subst q
      obtain ⟨A', a1, a2⟩ := sp_fewest2 e I J B A hb (s := 2) (by decide) (sN lg m sw 1) fr ed eN
      refine ⟨A', ?_, fin A' a2⟩
      unfold farA
      rw [if_neg k1, if_neg (show ¬ (1 : Nat) = 0 by decide), en_X9_fewest, sg_X9_fewest_0, hb.kind, if_neg (show ¬ i32 K = (1 : Int32) from fun z => k1 ((i32_eq (b := 1) (by omega) (by decide)).1 z)), if_neg (show ¬ i32 1 = 0 by decide)]
      simp only [i32_l]
      rw [a1, mm_aft_v, last A' (far2 K R C (sN lg m sw 1) fr 2) (mn_le1 _ _ _), mm_aft_v, sg_X10_far_68]
end
section
variable {K R C : Nat} {lg : Nat → Nat} {m : Nat} {sw : Bool} (k : Nat) (r : Nat → Nat → Value) (e : Nat) (I : Nat → Nat → Int32) (J : Nat → Nat → Int64) (A : Nat → Nat → Int32) (B : Nat → Nat → Int64)
theorem smF_le (h : bN K R C ≤ 36) (own fr : Int64) (s : Nat) (j c : Nat) : smF K R C own fr s j c ≤ 1000 * j := by
  induction j with
  | zero => exact Nat.le_refl _
  | succ j ih =>
    show smF K R C own fr s j c + (dD K R C (bSs K R C (s + j)) own fr c - _) ≤ _
    have := (dD_wt h (bSs K R C (s + j)) own fr c).2
    omega
theorem sp_MfarOf (h : MG K R C lg m sw I A B) (w : WG K R C lg m sw) {p : Nat} (hp : p < 2) (hk : ¬ (p = 1 ∧ K = 2)) : ∃ A', f_X11_farOf [.ref 39, .int (i32 p)] (k + 64, e, (mm_RM r), I, J, A, B) = some (.inl (some (.int (farA K R C p (sN lg m sw p) (emp (bN K R C) (sN lg m sw 0) (sN lg m sw 1))))), (k + 64, e, (mm_RM r), I, J, A', B)) ∧ (∀ i, i ≠ 62 → i ≠ 63 → A' i = A i) := by
  have hN := bN_le w.1
  have hK := bV_K w.1
  have hc := h.1.cells
  have own : B 45 p = sN lg m sw p := MG.st I B h hp
  have oth : B 45 (1 - p) = sN lg m sw (1 - p) := MG.st I B h (by omega)
  obtain ⟨fr, hfr⟩ : ∃ fr, fr = emp (bN K R C) (sN lg m sw 0) (sN lg m sw 1) := ⟨_, rfl⟩
  rw [← hfr]
  have mbA : ∀ A' : Nat → Nat → Int32, (∀ i, i ≠ 62 → i ≠ 63 → A' i = A i) → MB K R C I A' B := fun A' hA => h.1.fr (fun _ _ => rfl) (hA 40 (by decide) (by decide)) (hA 41 (by decide) (by decide)) (hA 42 (by decide) (by decide)) rfl rfl
  obtain ⟨fs, hfs⟩ : ∃ fs, fs = (if K = 0 ∧ p = 1 then 2 else 0) := ⟨_, rfl⟩
  obtain ⟨n, hn⟩ : ∃ n, n = (if K = 1 then 3 else 2) := ⟨_, rfl⟩
  have fsn : fs + n ≤ 4 ∧ 2 ≤ n ∧ (K = 1 → fs = 0 ∧ n = 3) ∧ (K ≠ 1 → n = 2 ∧ fs = (if p = 0 then 0 else 2)) := by
    rw [hfs, hn]
    refine ⟨?_, ?_, ?_, ?_⟩
    · split <;> split <;> omega
    · split <;> omega
    · intro z; rw [if_neg (by omega), if_pos z]; exact ⟨rfl, rfl⟩
    · intro z
      rw [if_neg z]
      refine ⟨rfl, ?_⟩
      by_cases y : p = 0
      · rw [if_neg (by omega), if_pos y]
      · rw [if_neg y, if_pos (by omega)]
  have st0 : mm_run (mm_pr tb_X11_farOf) (0, [some (.ref 39), some (.int (i32 p)), none, none, none, none], [], (k + 64, e, (mm_RM r), I, J, A, B)) = mm_run (mm_pr tb_X11_farOf) (37, [some (.ref 39), some (.int (i32 p)), some (.int (i32 fs)), some (.int (i32 (fs + n - 1))), some (.int (i32 0)), none], [], (k + 64, e, (mm_RM r), I, J, A, B)) := by
    have t17 : ∀ q : Nat, q = fs → mm_run (mm_pr tb_X11_farOf) (17, [some (.ref 39), some (.int (i32 p)), none, none, none, none], [.int (i32 q)], (k + 64, e, (mm_RM r), I, J, A, B)) = mm_run (mm_pr tb_X11_farOf) (37, [some (.ref 39), some (.int (i32 p)), some (.int (i32 fs)), some (.int (i32 (fs + n - 1))), some (.int (i32 0)), none], [], (k + 64, e, (mm_RM r), I, J, A, B)) := by
      intro q hq
      rw [sg_X11_farOf_17, h.1.kind, hq]
      by_cases z : K = 1
      · obtain ⟨z1, z2⟩ := fsn.2.2.1 z
        rw [if_pos (by rw [z]; rfl), sg_X11_farOf_33, z1, z2]
        rfl
      · obtain ⟨z1, z2⟩ := fsn.2.2.2 z
        rw [if_neg (show ¬ i32 K = (1 : Int32) from fun y => z ((i32_eq (b := 1) (by omega) (by decide)).1 y)), sg_X11_farOf_33, z1]
        simp only [i32_l]
        rw [i32_add, show fs + 2 - 1 = fs + 1 by omega]
    rw [sg_X11_farOf_0, h.1.kind]
    by_cases z : K = 0
    · rw [if_pos (by rw [z]; rfl)]
      by_cases y : p = 1
      · rw [if_pos (by rw [y]; rfl)]
        exact t17 2 (by rw [hfs, if_pos ⟨z, y⟩])
      · rw [if_neg (show ¬ i32 p = (1 : Int32) from fun q => y ((i32_eq (b := 1) (by omega) (by decide)).1 q)), sg_X11_farOf_16]
        exact t17 0 (by rw [hfs, if_neg (fun q => y q.2)])
    · rw [if_neg (show ¬ i32 K = (0 : Int32) from fun q => z ((i32_eq (b := 0) (by omega) (by decide)).1 q)), sg_X11_farOf_16]
      exact t17 0 (by rw [hfs, if_neg (fun q => z q.1)])
  have init : ∀ (dd c : Nat) (A' : Nat → Nat → Int32), c + dd = bN K R C → (∀ i, i ≠ 62 → i ≠ 63 → A' i = A i) → (∀ x, x < c → A' 63 x = i32 0) → ∃ A'', mm_run (mm_pr tb_X11_farOf) (37, [some (.ref 39), some (.int (i32 p)), some (.int (i32 fs)), some (.int (i32 (fs + n - 1))), some (.int (i32 c)), none], [], (k + 64, e, (mm_RM r), I, J, A', B)) = mm_run (mm_pr tb_X11_farOf) (63, [some (.ref 39), some (.int (i32 p)), some (.int (i32 fs)), some (.int (i32 (fs + n - 1))), some (.int (i32 fs)), none], [], (k + 64, e, (mm_RM r), I, J, A'', B)) ∧ (∀ i, i ≠ 62 → i ≠ 63 → A'' i = A i) ∧ (∀ x, x < bN K R C → A'' 63 x = i32 0) := by
    intro dd
    induction dd with
    | zero =>
      intro c A' hcd hA hx
      refine ⟨A', ?_, hA, fun x h' => hx x (by omega)⟩
      rw [sg_X11_farOf_37, hc, if_neg (by rw [i32_lt (by omega) (by omega)]; omega)]
    | succ dd ih =>
      intro c A' hcd hA hx
      obtain ⟨A'', i1, i2⟩ := ih (c + 1) (mm_up A' 63 c (i32 0)) (by omega) (fun i hi hj => by rw [mm_up_row _ _ _ _ _ hj]; exact hA i hi hj) (fun x hx' => by
        by_cases y : x = c
        · subst y; rw [mm_up_eq]
        · rw [mm_up_ne2 _ _ _ _ _ _ y]; exact hx x (by omega))
      refine ⟨A'', ?_, i2⟩
      rw [← i1, sg_X11_farOf_37, hc]
      simp (disch := omega) only [i32_l, iN_l, i32_add, i32_mul, i32_r0, i32_r1, run_bi, run_bi', i32_sub, decide_eq_true_eq, bi_rt, bi_em, bi_0, bi_1, i32_lt, i32_eq, iN_ne, iN_lt, iN_nlt, i32_ix, i32_in,  mm_aft_v, mm_aft_n, mm_aft_x, if_pos, if_neg, ite_true, ite_false, if_true, if_false, not_false_eq_true, not_true_eq_false]
  -- one side added
  have add : ∀ (j : Nat), j < n → ∀ (dd c : Nat) (A' : Nat → Nat → Int32), c + dd = bN K R C → (∀ i, i ≠ 62 → i ≠ 63 → A' i = A i) → (∀ x, x < bN K R C → A' 62 x = i32 (dD K R C (bSs K R C (fs + j)) (sN lg m sw p) fr x)) → (∀ x, x < bN K R C → A' 63 x = i32 (if x < c then smF K R C (sN lg m sw p) fr fs (j + 1) x else smF K R C (sN lg m sw p) fr fs j x)) → ∃ A'', mm_run (mm_pr tb_X11_farOf) (79, [some (.ref 39), some (.int (i32 p)), some (.int (i32 fs)), some (.int (i32 (fs + n - 1))), some (.int (i32 (fs + j))), some (.int (i32 c))], [], (k + 64, e, (mm_RM r), I, J, A', B)) = mm_run (mm_pr tb_X11_farOf) (63, [some (.ref 39), some (.int (i32 p)), some (.int (i32 fs)), some (.int (i32 (fs + n - 1))), some (.int (i32 (fs + (j + 1)))), some (.int (i32 (bN K R C)))], [], (k + 64, e, (mm_RM r), I, J, A'', B)) ∧ (∀ i, i ≠ 62 → i ≠ 63 → A'' i = A i) ∧ (∀ x, x < bN K R C → A'' 63 x = i32 (smF K R C (sN lg m sw p) fr fs (j + 1) x)) := by
    intro j hj dd
    induction dd with
    | zero =>
      intro c A' hcd hA h62 h63
      refine ⟨A', ?_, hA, fun x hx => by rw [h63 x hx, if_pos (by omega)]⟩
      rw [sg_X11_farOf_79, hc, if_neg (by rw [i32_lt (by omega) (by omega)]; omega), show c = bN K R C by omega]
      simp only [i32_l]
      rw [i32_add, show fs + j + 1 = fs + (j + 1) by omega]
    | succ dd ih =>
      intro c A' hcd hA h62 h63
      have a62 := h62 c (by omega)
      have a63 := h63 c (by omega)
      rw [if_neg (by omega)] at a63
      have dl := dD_wt hN (bSs K R C (fs + j)) (sN lg m sw p) fr c
      have sl := smF_le hN (sN lg m sw p) fr fs j c
      have un : smF K R C (sN lg m sw p) fr fs (j + 1) c = smF K R C (sN lg m sw p) fr fs j c + (dD K R C (bSs K R C (fs + j)) (sN lg m sw p) fr c - (if 0 < j then wt (sN lg m sw p) c else 0)) := rfl
      obtain ⟨A'', i1, i2, i3⟩ := ih (c + 1) (mm_up A' 63 c (i32 (smF K R C (sN lg m sw p) fr fs (j + 1) c))) (by omega) (fun i hi hj' => by rw [mm_up_row _ _ _ _ _ hj']; exact hA i hi hj') (fun x hx => by rw [mm_up_row _ _ _ _ _ (by decide)]; exact h62 x hx) (fun x hx => by
        by_cases y : x = c
        · subst y; rw [mm_up_eq, if_pos (by omega)]
        · rw [mm_up_ne2 _ _ _ _ _ _ y, h63 x hx]
          by_cases y2 : x < c
          · rw [if_pos y2, if_pos (by omega)]
          · rw [if_neg y2, if_neg (by omega)])
      refine ⟨A'', ?_, i2, i3⟩
      rw [← i1, un, sg_X11_farOf_79, hc]
      simp (disch := omega) only [i32_l, iN_l, i32_add, i32_mul, i32_r0, i32_r1, run_bi, run_bi', i32_sub, decide_eq_true_eq, bi_rt, bi_em, bi_0, bi_1, i32_lt, i32_eq, iN_ne, iN_lt, iN_nlt, i32_ix, i32_in,  mm_aft_v, mm_aft_n, mm_aft_x, if_pos, if_neg, ite_true, ite_false, if_true, if_false, not_false_eq_true, not_true_eq_false, a62, a63]
      by_cases j0 : 0 < j
      · rw [if_pos (by omega), if_pos j0, en_X11_weight, sg_X11_weight_0, if_pos ((i32_in (by omega)).2 (by omega)), i32_ix (by omega), own, sp_Mhas _ _ (by omega), mm_aft_v, sg_X11_weight_10]
        have wc : wt (sN lg m sw p) c = if mb (sN lg m sw p) c = true then 0 else 1 := rfl
        rw [wc] at dl ⊢
        cases q : mb (sN lg m sw p) c with
        | true =>
          rw [q, if_pos rfl] at dl
          rw [if_neg (show ¬ bi true = 0 by decide), sg_X11_weight_18, mm_aft_v, sg_X11_farOf_116, if_pos rfl]
          simp (disch := omega) only [i32_l, iN_l, i32_add, i32_mul, i32_r0, i32_r1, run_bi, run_bi', i32_sub, decide_eq_true_eq, bi_rt, bi_em, bi_0, bi_1, i32_lt, i32_eq, iN_ne, iN_lt, iN_nlt, i32_ix, i32_in,  mm_aft_v, mm_aft_n, mm_aft_x, if_pos, if_neg, ite_true, ite_false, if_true, if_false, not_false_eq_true, not_true_eq_false, sg_X11_farOf_120]
        | false =>
          rw [q, if_neg (by decide)] at dl
          rw [if_pos (show bi false = 0 from rfl), sg_X11_weight_18, mm_aft_v, sg_X11_farOf_116, if_neg (by decide)]
          simp (disch := omega) only [i32_l, iN_l, i32_add, i32_mul, i32_r0, i32_r1, run_bi, run_bi', i32_sub, decide_eq_true_eq, bi_rt, bi_em, bi_0, bi_1, i32_lt, i32_eq, iN_ne, iN_lt, iN_nlt, i32_ix, i32_in,  mm_aft_v, mm_aft_n, mm_aft_x, if_pos, if_neg, ite_true, ite_false, if_true, if_false, not_false_eq_true, not_true_eq_false, sg_X11_farOf_120]
      · rw [if_neg (by omega), if_neg j0]
        simp (disch := omega) only [i32_l, iN_l, i32_add, i32_mul, i32_r0, i32_r1, run_bi, run_bi', i32_sub, decide_eq_true_eq, bi_rt, bi_em, bi_0, bi_1, i32_lt, i32_eq, iN_ne, iN_lt, iN_nlt, i32_ix, i32_in,  mm_aft_v, mm_aft_n, mm_aft_x, if_pos, if_neg, ite_true, ite_false, if_true, if_false, not_false_eq_true, not_true_eq_false, sg_X11_farOf_120]
  have all : ∀ (dd j : Nat) (A' : Nat → Nat → Int32) (o5 : Option Value), j + dd = n → (∀ i, i ≠ 62 → i ≠ 63 → A' i = A i) → (∀ x, x < bN K R C → A' 63 x = i32 (smF K R C (sN lg m sw p) fr fs j x)) → ∃ A'', mm_run (mm_pr tb_X11_farOf) (63, [some (.ref 39), some (.int (i32 p)), some (.int (i32 fs)), some (.int (i32 (fs + n - 1))), some (.int (i32 (fs + j))), o5], [], (k + 64, e, (mm_RM r), I, J, A', B)) = mm_run (mm_pr tb_X11_farOf) (143, [some (.ref 39), some (.int (i32 p)), some (.int (i32 fs)), some (.int (i32 (fs + n - 1))), some (.int (i32 1000)), some (.int (i32 0))], [], (k + 64, e, (mm_RM r), I, J, A'', B)) ∧ (∀ i, i ≠ 62 → i ≠ 63 → A'' i = A i) ∧ (∀ x, x < bN K R C → A'' 63 x = i32 (smF K R C (sN lg m sw p) fr fs n x)) := by
    intro dd
    induction dd with
    | zero =>
      intro j A' o5 hj hA h63
      have jn : j = n := by omega
      rw [jn] at h63 ⊢
      refine ⟨A', ?_, hA, h63⟩
      rw [sg_X11_farOf_63, if_pos (by rw [i32_lt (by omega) (by omega)]; omega)]
      rfl
    | succ dd ih =>
      intro j A' o5 hj hA h63
      obtain ⟨A2, f1, f2, f3⟩ := sp_Mfinds k r e I J B A' (mbA A' hA) hp (s := fs + j) (by omega) (fr := fr) (fun c hc' => by
        rw [own, oth, hfr, emp_p w hp c]
        exact ⟨fun z => z.2, fun z => ⟨hc', z⟩⟩) (fun c hc' => by rw [own] at hc'; rw [oth]; exact sN_disj w hp c hc')
      rw [own] at f2
      obtain ⟨A3, g1, g2, g3⟩ := add j (by omega) (bN K R C) 0 A2 (by omega) (fun i i1 i2 => by rw [f3 i i1]; exact hA i i1 i2) (fun x hx => by
        obtain ⟨v, v1, v2⟩ := f2 x hx
        rw [v1, dD_of hN v2]) (fun x hx => by rw [f3 63 (by decide), h63 x hx, if_neg (Nat.not_lt_zero _)])
      obtain ⟨A4, k1, k2⟩ := ih (j + 1) A3 (some (.int (i32 (bN K R C)))) (by omega) g2 g3
      refine ⟨A4, ?_, k2⟩
      rw [← k1, ← g1, sg_X11_farOf_63, if_neg (by rw [i32_lt (by omega) (by omega)]; omega), f1, mm_aft_n, sg_X11_farOf_76]
      rfl
  obtain ⟨A1, i1, i2, i3⟩ := init (bN K R C) 0 A (by omega) (fun _ _ _ => rfl) (fun x hx => absurd hx (Nat.not_lt_zero _))
  obtain ⟨A2, a1, a2, a3⟩ := all n 0 A1 none (by omega) i2 i3
  have L : ∀ dd c, c + dd = bN K R C → mm_run (mm_pr tb_X11_farOf) (143, [some (.ref 39), some (.int (i32 p)), some (.int (i32 fs)), some (.int (i32 (fs + n - 1))), some (.int (i32 (mn (fun c => !mb (sN lg m sw (1 - p)) c) (smF K R C (sN lg m sw p) fr fs n) c))), some (.int (i32 c))], [], (k + 64, e, (mm_RM r), I, J, A2, B)) = some (.inl (some (.int (if mn (fun c => !mb (sN lg m sw (1 - p)) c) (smF K R C (sN lg m sw p) fr fs n) (bN K R C) < 500 then i32 (mn (fun c => !mb (sN lg m sw (1 - p)) c) (smF K R C (sN lg m sw p) fr fs n) (bN K R C)) else iN))), (k + 64, e, (mm_RM r), I, J, A2, B)) := by
    intro dd
    induction dd with
    | zero =>
      intro c hcd
      have ml := mn_le1 (fun c => !mb (sN lg m sw (1 - p)) c) (smF K R C (sN lg m sw p) fr fs n) (bN K R C)
      rw [sg_X11_farOf_143, hc, if_neg (by rw [i32_lt (by omega) (by omega)]; omega), show c = bN K R C by omega]
      generalize mn (fun c => !mb (sN lg m sw (1 - p)) c) (smF K R C (sN lg m sw p) fr fs n) (bN K R C) = y at ml ⊢
      by_cases q : y < 500
      · rw [if_pos q]
        simp (disch := omega) only [i32_l, iN_l, i32_add, i32_mul, i32_r0, i32_r1, run_bi, run_bi', i32_sub, decide_eq_true_eq, bi_rt, bi_em, bi_0, bi_1, i32_lt, i32_eq, iN_ne, iN_lt, iN_nlt, i32_ix, i32_in,  mm_aft_v, mm_aft_n, mm_aft_x, if_pos, if_neg, ite_true, ite_false, if_true, if_false, not_false_eq_true, not_true_eq_false, q, sg_X11_farOf_214]
      · rw [if_neg q]
        simp (disch := omega) only [i32_l, iN_l, i32_add, i32_mul, i32_r0, i32_r1, run_bi, run_bi', i32_sub, decide_eq_true_eq, bi_rt, bi_em, bi_0, bi_1, i32_lt, i32_eq, iN_ne, iN_lt, iN_nlt, i32_ix, i32_in,  mm_aft_v, mm_aft_n, mm_aft_x, if_pos, if_neg, ite_true, ite_false, if_true, if_false, not_false_eq_true, not_true_eq_false, q, sg_X11_farOf_214]
    | succ dd ih =>
      intro c hcd
      have a63 := a3 c (by omega)
      have sl := smF_le hN (sN lg m sw p) fr fs n c
      have ml := mn_le1 (fun c => !mb (sN lg m sw (1 - p)) c) (smF K R C (sN lg m sw p) fr fs n) c
      have un : mn (fun c => !mb (sN lg m sw (1 - p)) c) (smF K R C (sN lg m sw p) fr fs n) (c + 1) = (if (!mb (sN lg m sw (1 - p)) c) = true then min (mn (fun c => !mb (sN lg m sw (1 - p)) c) (smF K R C (sN lg m sw p) fr fs n) c) (smF K R C (sN lg m sw p) fr fs n c) else mn (fun c => !mb (sN lg m sw (1 - p)) c) (smF K R C (sN lg m sw p) fr fs n) c) := rfl
      rw [← ih (c + 1) (by omega), un, sg_X11_farOf_143, hc]
      simp (disch := omega) only [i32_l, iN_l, i32_add, i32_mul, i32_r0, i32_r1, run_bi, run_bi', i32_sub, decide_eq_true_eq, bi_rt, bi_em, bi_0, bi_1, i32_lt, i32_eq, iN_ne, iN_lt, iN_nlt, i32_ix, i32_in,  mm_aft_v, mm_aft_n, mm_aft_x, if_pos, if_neg, ite_true, ite_false, if_true, if_false, not_false_eq_true, not_true_eq_false, oth, sp_Mhas]
      rw [sg_X11_farOf_165]
      cases q : mb (sN lg m sw (1 - p)) c with
      | true =>
        rw [if_neg (show ¬ bi true = 0 by decide), if_neg (show ¬ (!true) = true by decide)]
        simp (disch := omega) only [i32_l, iN_l, i32_add, i32_mul, i32_r0, i32_r1, run_bi, run_bi', i32_sub, decide_eq_true_eq, bi_rt, bi_em, bi_0, bi_1, i32_lt, i32_eq, iN_ne, iN_lt, iN_nlt, i32_ix, i32_in,  mm_aft_v, mm_aft_n, mm_aft_x, if_pos, if_neg, ite_true, ite_false, if_true, if_false, not_false_eq_true, not_true_eq_false, sg_X11_farOf_190, sg_X11_farOf_192]
      | false =>
        rw [if_pos (show bi false = 0 from rfl), if_pos (show (!false) = true from rfl)]
        by_cases y : smF K R C (sN lg m sw p) fr fs n c < mn (fun c => !mb (sN lg m sw (1 - p)) c) (smF K R C (sN lg m sw p) fr fs n) c
        · rw [Nat.min_eq_right (by omega)]
          simp (disch := omega) only [i32_l, iN_l, i32_add, i32_mul, i32_r0, i32_r1, run_bi, run_bi', i32_sub, decide_eq_true_eq, bi_rt, bi_em, bi_0, bi_1, i32_lt, i32_eq, iN_ne, iN_lt, iN_nlt, i32_ix, i32_in,  mm_aft_v, mm_aft_n, mm_aft_x, if_pos, if_neg, ite_true, ite_false, if_true, if_false, not_false_eq_true, not_true_eq_false, a63, y, sg_X11_farOf_192]
        · rw [Nat.min_eq_left (by omega)]
          simp (disch := omega) only [i32_l, iN_l, i32_add, i32_mul, i32_r0, i32_r1, run_bi, run_bi', i32_sub, decide_eq_true_eq, bi_rt, bi_em, bi_0, bi_1, i32_lt, i32_eq, iN_ne, iN_lt, iN_nlt, i32_ix, i32_in,  mm_aft_v, mm_aft_n, mm_aft_x, if_pos, if_neg, ite_true, ite_false, if_true, if_false, not_false_eq_true, not_true_eq_false, a63, y, sg_X11_farOf_190, sg_X11_farOf_192]
  refine ⟨A2, ?_, a2⟩
  rw [en_X11_farOf, st0]
  refine i1.trans (a1.trans ((L (bN K R C) 0 (by omega)).trans ?_))
  have hp' : ∀ c, c < bN K R C → (psw (sN lg m sw p) fr c ↔ mb (sN lg m sw (1 - p)) c = false) := fun c hc' => by rw [hfr]; exact psw_p w hp hc'
  unfold farA
  by_cases z : K = 1
  · obtain ⟨z1, z2⟩ := fsn.2.2.1 z
    rw [if_pos z, z1, z2, far_three w.1 hp' (fun c c1 c2 => by rw [hfr] at c2; exact emp_own w hp c c1 c2)]
  · obtain ⟨z1, z2⟩ := fsn.2.2.2 z
    rw [if_neg z, z1, ← z2, far_two w.1 fs hp']
theorem cM_far_1 {x : Int32} (hx : plaP x = false) : f_X11_far [.ref 39, .int x] (k + 64, e, (mm_RM r), I, J, A, B) = some (.inl (some (.int (i32 0))), (k + 64, e, (mm_RM r), mm_up I 39 39 (i32 1), J, A, B)) := by
  rw [en_X11_far, sg_X11_far_0, sp_MisPlayer, plaP_M, hx, mm_aft_v, sg_X11_far_5, sp_Masks, mm_aft_v, sg_X11_far_8, if_pos (show bi false = 0 from rfl)]
  rfl
theorem cM_far_3 (h : MG 2 R C lg m sw I A B) : f_X11_far [.ref 39, .int (i32 1)] (k + 64, e, (mm_RM r), I, J, A, B) = some (.inl (some (.int (i32 0))), (k + 64, e, (mm_RM r), mm_up (mm_up I 39 39 (i32 0)) 39 39 (i32 2), J, A, B)) := by
  rw [en_X11_far, sg_X11_far_0, sp_MisPlayer, plaP_M, plaP_i (by decide), mm_aft_v, sg_X11_far_5, sp_Masks, mm_aft_v, sg_X11_far_8, if_neg (show ¬ bi true = 0 by decide), mm_up_ne2 _ _ _ _ _ _ (by decide), h.1.kind, if_pos (show i32 2 = 2 from rfl), if_pos (show i32 1 = 1 from rfl), sp_Mfails, mm_aft_v, sg_X11_far_31, sg_X11_far_39]
  rfl
theorem cM_far (h : MG K R C lg m sw I A B) (w : WG K R C lg m sw) {p : Nat} (hp : p < 2) (hk : ¬ (p = 1 ∧ K = 2)) : ∃ A', f_X11_far [.ref 39, .int (i32 p)] (k + 64, e, (mm_RM r), I, J, A, B) = some (.inl (some (.int (farA K R C p (sN lg m sw p) (emp (bN K R C) (sN lg m sw 0) (sN lg m sw 1))))), (k + 64, e, (mm_RM r), mm_up I 39 39 (i32 0), J, A', B)) ∧ FM I (mm_up I 39 39 (i32 0)) J J A A' B B := by
  have hK := bV_K w.1
  have fm := FM.th I J A B (i32 0)
  have h2 := h.fr fm
  obtain ⟨A', a1, a2⟩ := sp_MfarOf k r e (mm_up I 39 39 (i32 0)) J A B h2 w hp hk
  refine ⟨A', ?_, fm.tr ⟨fun _ _ => rfl, fun _ _ _ => rfl, fun _ _ => rfl, fun i _ _ _ b c => a2 i b c, fun _ _ => rfl⟩⟩
  have t34 : mm_run (mm_pr tb_X11_far) (34, [some (.ref 39), some (.int (i32 p))], [], (k + 64, e, (mm_RM r), mm_up I 39 39 (i32 0), J, A, B)) = some (.inl (some (.int (farA K R C p (sN lg m sw p) (emp (bN K R C) (sN lg m sw 0) (sN lg m sw 1))))), (k + 64, e, (mm_RM r), mm_up I 39 39 (i32 0), J, A', B)) := by
    rw [sg_X11_far_34, a1, mm_aft_v, sg_X11_far_39]
  rw [en_X11_far, sg_X11_far_0, sp_MisPlayer, plaP_M, plaP_i hp, mm_aft_v, sg_X11_far_5, sp_Masks, mm_aft_v, sg_X11_far_8, if_neg (show ¬ bi true = 0 by decide), show bi (!true) = i32 0 from rfl, h2.1.kind]
  show (if i32 K = 2 then (if i32 p = 1 then _ else mm_run (mm_pr tb_X11_far) (34, _, _, _)) else mm_run (mm_pr tb_X11_far) (34, _, _, _)) = _
  by_cases q : i32 K = (2 : Int32)
  · rw [if_pos q]
    by_cases y : i32 p = (1 : Int32)
    · exact absurd ⟨(i32_eq (b := 1) (by omega) (by decide)).1 y, (i32_eq (b := 2) (by omega) (by decide)).1 q⟩ hk
    · rw [if_neg y]; exact t34
  · rw [if_neg q]; exact t34
end
