/-! playing out: the bridge that the last stone broke, reference -/
def LsI (P : Nat → Prop) (v : Int32) : Prop := (v = iN ∧ ∀ c, ¬ P c) ∨ (∃ c, c < 36 ∧ v = i32 c ∧ P c ∧ ∀ d, d < c → ¬ P d)
def OtP (K R C : Nat) (mine em : Int64) (l x y c : Nat) : Prop := BrP K R C mine l x y ∧ mb (bNb K R C x) c = true ∧ mb (bNb K R C y) c = true ∧ mb em c = true
theorem LsI.cg {P Q : Nat → Prop} {v : Int32} (h : LsI P v) (hPQ : ∀ c, P c ↔ Q c) : LsI Q v := by
  rcases h with ⟨h1, h2⟩ | ⟨c, h1, h2, h3, h4⟩
  · exact Or.inl ⟨h1, fun c z => h2 c ((hPQ c).2 z)⟩
  · exact Or.inr ⟨c, h1, h2, (hPQ c).1 h3, fun d hd z => h4 d hd ((hPQ d).2 z)⟩
theorem cf_thr {p : Nat → Bool} {a b c : Nat} (ha : p a = true) (hb : p b = true) (hc : p c = true) (hab : a < b) (hbc : b < c) (h : c < 36) : 3 ≤ cf p 36 := by
  have h1 := cf_inj hab ha
  have h2 := cf_inj hbc hb
  have h3 := cf_s hc
  have h4 : cf p (c + 1) ≤ cf p 36 := cf_mono (by omega)
  omega
theorem two_other {E : Int64} {l : Nat} (h : gn E = 2) (hl : l < 36) (hm : mb E l = true) (h36 : ∀ c, mb E c = true → c < 36) : ¬ (E &&& (mbit l ^^^ (-1)) = 0) ∧ ∀ c, mb E c = true → c ≠ l → c = mlo (E &&& (mbit l ^^^ (-1))) := by
  have bits : ∀ c, mb (E &&& (mbit l ^^^ (-1))) c = (mb E c && !decide (c = l)) := by
    intro c
    rcases Nat.lt_or_ge c 64 with q | q
    · rw [mb_and, mb_cpl _ _ q, mb_bit _ _ (by omega)]
      by_cases y : l = c
      · rw [decide_eq_true y, decide_eq_true y.symm]
      · rw [decide_eq_false y, decide_eq_false (fun z => y z.symm)]
    · rw [mb_hi _ _ q, mb_hi _ _ q]; rfl
  have ex : ∃ c, mb E c = true ∧ c ≠ l := by
    have g : ∀ k, k < 2 → ∃ c, c < 36 ∧ mb E c = true ∧ cf (mb E) c = k := fun k hk => cf_hit 36 k (by rw [show cf (mb E) 36 = 2 from h]; exact hk)
    obtain ⟨a, a1, a2, a3⟩ := g 0 (by decide)
    obtain ⟨b, b1, b2, b3⟩ := g 1 (by decide)
    by_cases q : a = l
    · exact ⟨b, b2, fun z => by rw [q, ← z, b3] at a3; omega⟩
    · exact ⟨a, a2, q⟩
  obtain ⟨c, c1, c2⟩ := ex
  have ne : ¬ (E &&& (mbit l ^^^ (-1)) = 0) := mne_of (j := c) (by rw [bits, c1, decide_eq_false c2]; rfl)
  refine ⟨ne, fun d d1 d2 => ?_⟩
  have o1 := mlo_mb ne
  rw [bits, Bool.and_eq_true, Bool.not_eq_true', decide_eq_false_iff_not] at o1
  obtain ⟨o2, o3⟩ := o1
  generalize mlo (E &&& (mbit l ^^^ (-1))) = o at o2 o3 ⊢
  have d36 := h36 d d1
  have o36 := h36 o o2
  apply Classical.byContradiction
  intro hne
  have h2 : cf (mb E) 36 = 2 := h
  rcases Nat.lt_trichotomy d o with q | q | q
  · rcases Nat.lt_trichotomy l d with y | y | y
    · have := cf_thr hm d1 o2 y q o36; omega
    · exact d2 y.symm
    · rcases Nat.lt_trichotomy l o with z | z | z
      · have := cf_thr d1 hm o2 y z o36; omega
      · exact o3 z.symm
      · have := cf_thr d1 o2 hm q z hl; omega
  · exact hne q
  · rcases Nat.lt_trichotomy l o with y | y | y
    · have := cf_thr hm o2 d1 y q d36; omega
    · exact o3 y.symm
    · rcases Nat.lt_trichotomy l d with z | z | z
      · have := cf_thr o2 hm d1 y z d36; omega
      · exact d2 z.symm
      · have := cf_thr o2 d1 hm q z hl; omega
theorem LsI_sv {K R C : Nat} {mine em : Int64} {l : Nat} (h36 : ∀ c, mb em c = true → c < 36) {v : Int32} (h : LsI (fun c => SvP K R C mine l c ∧ mb em c = true) v) : v = svI K R C mine em l := by
  have bits : ∀ c, mb (svW K R C mine em l) c = true ↔ (SvP K R C mine l c ∧ mb em c = true) := by
    intro c
    unfold svW
    rw [mb_ms _ _ _ (by decide), Bool.and_eq_true, Bool.and_eq_true, decide_eq_true_eq, pdec_t]
    exact ⟨fun z => ⟨z.2.2, z.2.1⟩, fun z => ⟨h36 c z.2, z.2, z.1⟩⟩
  unfold svI
  rcases h with ⟨h1, h2⟩ | ⟨c, h1, h2, h3, h4⟩
  · rw [if_pos, h1]
    apply mb_ext
    intro c hc
    rw [mb_zero]
    exact bool_f (fun z => h2 c ((bits c).1 z))
  · have hc := (bits c).2 h3
    rw [if_neg (mne_of hc), h2, mlo_of hc (fun j hj => bool_f (fun z => h4 j hj ((bits j).1 z)))]
section
variable {K R C : Nat} (k : Nat) (r : Nat → Nat → Value) (e : Nat) (I : Nat → Nat → Int32) (J : Nat → Nat → Int64) (A : Nat → Nat → Int32) (B : Nat → Nat → Int64)
theorem sp_mend1 (h : MB K R C I A B) {l : Nat} (hl : l < bN K R C) (mine em : Int64) (hle : mb em l = false) {x y : Nat} (hy : y < x) (hx : x < bN K R C) (v : Int32) (P : Nat → Prop) (hv : LsI P v) (o9 o11 o12 : Option Value) : ∃ v' o9' o11' o12', mm_run (mm_pr tb_X11_mends) (18, [some (.ref 39), some (.long mine), none, some (.long em), none, some (.int (i32 l)), some (.int v), some (.int (i32 x)), some (.int (i32 y)), o9, none, o11, o12], [], (k + 64, e, (mm_RM r), I, J, A, B)) = mm_run (mm_pr tb_X11_mends) (18, [some (.ref 39), some (.long mine), none, some (.long em), none, some (.int (i32 l)), some (.int v'), some (.int (i32 x)), some (.int (i32 (y + 1))), o9', none, o11', o12'], [], (k + 64, e, (mm_RM r), I, J, A, B)) ∧ LsI (fun c => P c ∨ OtP K R C mine em l x y c) v' := by
  have hN := bN_le h.v
  have nx := h.nb x hx
  have ny := h.nb y (by omega)
  obtain ⟨sh, hsh⟩ : ∃ sh, sh = bNb K R C x &&& bNb K R C y := ⟨_, rfl⟩
  have no : (¬ BrP K R C mine l x y) → ∃ v' o9' o11' o12', mm_run (mm_pr tb_X11_mends) (98, [some (.ref 39), some (.long mine), none, some (.long em), none, some (.int (i32 l)), some (.int v), some (.int (i32 x)), some (.int (i32 y)), some (.long sh), none, o11, o12], [], (k + 64, e, (mm_RM r), I, J, A, B)) = mm_run (mm_pr tb_X11_mends) (18, [some (.ref 39), some (.long mine), none, some (.long em), none, some (.int (i32 l)), some (.int v'), some (.int (i32 x)), some (.int (i32 (y + 1))), o9', none, o11', o12'], [], (k + 64, e, (mm_RM r), I, J, A, B)) ∧ LsI (fun c => P c ∨ OtP K R C mine em l x y c) v' := by
    intro hb
    refine ⟨v, some (.long sh), some (.int (i32 0)), some (.int iN), ?_, hv.cg (fun c => ⟨fun z => Or.inl z, fun z => z.resolve_right (fun q => hb q.1)⟩)⟩
    rw [sg_X11_mends_98, sg_X11_mends_99, if_pos (show (0 : Int32) = 0 from rfl), sg_X11_mends_125, if_pos (show (0 : Int32) = 0 from rfl), sg_X11_mends_159, sg_X11_mends_161]
    simp (disch := omega) only [i32_l, iN_l, i32_add, i32_mul, i32_r0, i32_r1, run_bi, run_bi', i32_sub, decide_eq_true_eq, bi_rt, bi_em, bi_0, bi_1, i32_lt, i32_eq, iN_ne, iN_lt, iN_nlt, i32_ix, i32_in,  mm_aft_v, mm_aft_n, mm_aft_x, if_pos, if_neg, ite_true, ite_false, if_true, if_false, not_false_eq_true, not_true_eq_false]
  rw [sg_X11_mends_18]
  simp (disch := omega) only [i32_l, iN_l, i32_add, i32_mul, i32_r0, i32_r1, run_bi, run_bi', i32_sub, decide_eq_true_eq, bi_rt, bi_em, bi_0, bi_1, i32_lt, i32_eq, iN_ne, iN_lt, iN_nlt, i32_ix, i32_in,  mm_aft_v, mm_aft_n, mm_aft_x, if_pos, if_neg, ite_true, ite_false, if_true, if_false, not_false_eq_true, not_true_eq_false]
  rw [nx, ny, ← hsh]
  rw [sp_Mhas _ _ (by omega), mm_aft_v, sg_X11_mends_48]
  cases q1 : mb mine x with
  | false => rw [if_pos (show bi false = 0 from rfl)]; exact no (fun z => by rw [z.2.2.2.1] at q1; cases q1)
  | true =>
    rw [if_neg (show ¬ bi true = 0 by decide), sp_Mhas _ _ (by omega), mm_aft_v, sg_X11_mends_57]
    cases q2 : mb mine y with
    | false => rw [if_pos (show bi false = 0 from rfl)]; exact no (fun z => by rw [z.2.2.2.2.1] at q2; cases q2)
    | true =>
      rw [if_neg (show ¬ bi true = 0 by decide)]
      simp (disch := omega) only [i32_l, iN_l, i32_add, i32_mul, i32_r0, i32_r1, run_bi, run_bi', i32_sub, decide_eq_true_eq, bi_rt, bi_em, bi_0, bi_1, i32_lt, i32_eq, iN_ne, iN_lt, iN_nlt, i32_ix, i32_in,  mm_aft_v, mm_aft_n, mm_aft_x, if_pos, if_neg, ite_true, ite_false, if_true, if_false, not_false_eq_true, not_true_eq_false]
      rw [nx, sp_Mhas _ _ (by omega), mm_aft_v, sg_X11_mends_72]
      cases q3 : mb (bNb K R C x) y with
      | true => rw [if_neg (show ¬ bi true = 0 by decide)]; exact no (fun z => by rw [z.2.2.2.2.2.1] at q3; cases q3)
      | false =>
        rw [if_pos (show bi false = 0 from rfl), sp_Mones, mm_aft_v, sg_X11_mends_80]
        have gl : gn sh ≤ 36 := cf_le _ _
        by_cases q4 : gn sh = 2
        · rw [if_pos (show i32 (cf (mb sh) 36) = (2 : Int32) by rw [show cf (mb sh) 36 = 2 from q4]; rfl), sp_Mhas _ _ (by omega), mm_aft_v, sg_X11_mends_91]
          cases q5 : mb sh l with
          | false =>
            rw [if_pos (show bi false = 0 from rfl)]
            exact no (fun z => by rw [hsh, mb_and, z.2.2.2.2.2.2.2.1, z.2.2.2.2.2.2.2.2] at q5; cases q5)
          | true =>
            have q6 := q5
            rw [hsh, mb_and, Bool.and_eq_true] at q6
            have sh36 : ∀ c, mb sh c = true → c < 36 := fun c z => by
              rw [hsh, mb_and, Bool.and_eq_true] at z
              have := bNb_lt h.v z.1
              omega
            have br : BrP K R C mine l x y := ⟨hx, by omega, by omega, q1, q2, q3, by rw [← hsh]; exact q4, q6.1, q6.2⟩
            obtain ⟨o1, o2⟩ := two_other q4 (by omega) q5 sh36
            have o3 := mlo_mb o1
            have f36 : ∀ c, 36 ≤ c → mb (sh &&& (mbit l ^^^ (-1))) c = false := fun c hc => bool_f (fun z => by
              rw [mb_and, Bool.and_eq_true] at z
              have := sh36 c z.1
              omega)
            have ol : mlo (sh &&& (mbit l ^^^ (-1))) < 36 := Nat.lt_of_not_le (fun z => by rw [f36 _ z] at o3; cases o3)
            rw [mb_and, Bool.and_eq_true] at o3
            rw [if_neg (show ¬ bi true = 0 by decide), sg_X11_mends_99, if_neg (show ¬ (1 : Int32) = 0 by decide), sp_Mbit, mm_aft_v, sg_X11_mends_113, sp_Mlowest _ _ f36, if_neg o1, mm_aft_v, sg_X11_mends_121, sg_X11_mends_125, if_neg (show ¬ (1 : Int32) = 0 by decide)]
            have o4 : ∀ c, OtP K R C mine em l x y c ↔ (c = mlo (sh &&& (mbit l ^^^ (-1))) ∧ mb em c = true) := by
              intro c
              constructor
              · rintro ⟨_, z2, z3, z4⟩
                refine ⟨o2 c (by rw [hsh, mb_and, z2, z3]; rfl) (fun z => by rw [z, hle] at z4; cases z4), z4⟩
              · rintro ⟨z1, z2⟩
                have z3 := o3.1
                rw [← z1, hsh, mb_and, Bool.and_eq_true] at z3
                exact ⟨br, z3.1, z3.2, z2⟩
            generalize mlo (sh &&& (mbit l ^^^ (-1))) = o at ol o4 ⊢
            rw [sp_Mhas _ _ (by omega), mm_aft_v, sg_X11_mends_138]
            cases q7 : mb em o with
            | false =>
              refine ⟨v, some (.long sh), some (.int (i32 1)), some (.int (i32 o)), ?_, hv.cg (fun c => ⟨fun z => Or.inl z, fun z => z.resolve_right (fun q => by
                obtain ⟨z1, z2⟩ := (o4 c).1 q
                rw [z1, q7] at z2; cases z2)⟩)⟩
              rw [if_pos (show bi false = 0 from rfl), sg_X11_mends_159, sg_X11_mends_161]
              simp (disch := omega) only [i32_l, iN_l, i32_add, i32_mul, i32_r0, i32_r1, run_bi, run_bi', i32_sub, decide_eq_true_eq, bi_rt, bi_em, bi_0, bi_1, i32_lt, i32_eq, iN_ne, iN_lt, iN_nlt, i32_ix, i32_in,  mm_aft_v, mm_aft_n, mm_aft_x, if_pos, if_neg, ite_true, ite_false, if_true, if_false, not_false_eq_true, not_true_eq_false]
            | true =>
              have oo : OtP K R C mine em l x y o := (o4 o).2 ⟨rfl, q7⟩
              rw [if_neg (show ¬ bi true = 0 by decide)]
              rcases hv with ⟨v1, v2⟩ | ⟨t, v1, v2, v3, v4⟩
              · refine ⟨i32 o, some (.long sh), some (.int (i32 1)), some (.int (i32 o)), ?_, Or.inr ⟨o, ol, rfl, Or.inr oo, fun d hd z => ?_⟩⟩
                · rw [if_pos (show v = (-1 : Int32) from v1), sg_X11_mends_154, sg_X11_mends_161]
                  simp (disch := omega) only [i32_l, iN_l, i32_add, i32_mul, i32_r0, i32_r1, run_bi, run_bi', i32_sub, decide_eq_true_eq, bi_rt, bi_em, bi_0, bi_1, i32_lt, i32_eq, iN_ne, iN_lt, iN_nlt, i32_ix, i32_in,  mm_aft_v, mm_aft_n, mm_aft_x, if_pos, if_neg, ite_true, ite_false, if_true, if_false, not_false_eq_true, not_true_eq_false]
                · rcases z with z | z
                  · exact v2 d z
                  · have := ((o4 d).1 z).1; omega
              · rw [if_neg (show ¬ v = (-1 : Int32) by rw [v2]; exact fun z => (iN_ne (a := t) (by omega)).1 z), v2]
                by_cases q8 : o < t
                · refine ⟨i32 o, some (.long sh), some (.int (i32 1)), some (.int (i32 o)), ?_, Or.inr ⟨o, ol, rfl, Or.inr oo, fun d hd z => ?_⟩⟩
                  · rw [if_pos ((i32_lt (by omega) (by omega)).2 q8), sg_X11_mends_154, sg_X11_mends_161]
                    simp (disch := omega) only [i32_l, iN_l, i32_add, i32_mul, i32_r0, i32_r1, run_bi, run_bi', i32_sub, decide_eq_true_eq, bi_rt, bi_em, bi_0, bi_1, i32_lt, i32_eq, iN_ne, iN_lt, iN_nlt, i32_ix, i32_in,  mm_aft_v, mm_aft_n, mm_aft_x, if_pos, if_neg, ite_true, ite_false, if_true, if_false, not_false_eq_true, not_true_eq_false]
                  · rcases z with z | z
                    · exact v4 d (by omega) z
                    · have := ((o4 d).1 z).1; omega
                · refine ⟨i32 t, some (.long sh), some (.int (i32 1)), some (.int (i32 o)), ?_, Or.inr ⟨t, v1, rfl, Or.inl v3, fun d hd z => ?_⟩⟩
                  · rw [if_neg (fun z => q8 ((i32_lt (by omega) (by omega)).1 z)), sg_X11_mends_159, sg_X11_mends_161]
                    simp (disch := omega) only [i32_l, iN_l, i32_add, i32_mul, i32_r0, i32_r1, run_bi, run_bi', i32_sub, decide_eq_true_eq, bi_rt, bi_em, bi_0, bi_1, i32_lt, i32_eq, iN_ne, iN_lt, iN_nlt, i32_ix, i32_in,  mm_aft_v, mm_aft_n, mm_aft_x, if_pos, if_neg, ite_true, ite_false, if_true, if_false, not_false_eq_true, not_true_eq_false]
                  · rcases z with z | z
                    · exact v4 d hd z
                    · have := ((o4 d).1 z).1; omega
        · rw [if_neg (show ¬ i32 (cf (mb sh) 36) = (2 : Int32) from fun z => q4 ((i32_eq (b := 2) (by omega) (by decide)).1 z))]
          exact no (fun z => q4 (by rw [hsh]; exact z.2.2.2.2.2.2.1))
theorem sp_mends (h : MB K R C I A B) {l : Nat} (hl : l < bN K R C) (mine em : Int64) (h36 : ∀ c, mb em c = true → c < 36) (hle : mb em l = false) : f_X11_mends [.ref 39, .long mine, .long em, .int (i32 l)] (k + 64, e, (mm_RM r), I, J, A, B) = some (.inl (some (.int (svI K R C mine em l))), (k + 64, e, (mm_RM r), I, J, A, B)) := by
  have hN := bN_le h.v
  have inner : ∀ (dd x y : Nat) (v : Int32) (P : Nat → Prop) (o9 o11 o12 : Option Value), y + dd = x → x < bN K R C → LsI P v → ∃ v' o9' o11' o12', mm_run (mm_pr tb_X11_mends) (18, [some (.ref 39), some (.long mine), none, some (.long em), none, some (.int (i32 l)), some (.int v), some (.int (i32 x)), some (.int (i32 y)), o9, none, o11, o12], [], (k + 64, e, (mm_RM r), I, J, A, B)) = mm_run (mm_pr tb_X11_mends) (6, [some (.ref 39), some (.long mine), none, some (.long em), none, some (.int (i32 l)), some (.int v'), some (.int (i32 (x + 1))), some (.int (i32 x)), o9', none, o11', o12'], [], (k + 64, e, (mm_RM r), I, J, A, B)) ∧ LsI (fun c => P c ∨ ∃ t, y ≤ t ∧ t < x ∧ OtP K R C mine em l x t c) v' := by
    intro dd
    induction dd with
    | zero =>
      intro x y v P o9 o11 o12 hy hx hv
      have yx : y = x := by omega
      subst yx
      refine ⟨v, o9, o11, o12, ?_, hv.cg (fun c => ⟨fun z => Or.inl z, fun z => z.resolve_right (fun ⟨t, t1, t2, _⟩ => by omega)⟩)⟩
      rw [sg_X11_mends_18, if_neg (by rw [i32_lt (by omega) (by omega)]; omega)]
      simp only [i32_l, i32_add]
    | succ dd ih =>
      intro x y v P o9 o11 o12 hy hx hv
      obtain ⟨v1, a9, a11, a12, e1, hv1⟩ := sp_mend1 k r e I J A B h hl mine em hle (show y < x by omega) hx v P hv o9 o11 o12
      obtain ⟨v2, b9, b11, b12, e2, hv2⟩ := ih x (y + 1) v1 _ a9 a11 a12 (by omega) hx hv1
      refine ⟨v2, b9, b11, b12, e1.trans e2, hv2.cg (fun c => ?_)⟩
      constructor
      · rintro ((z | z) | ⟨t, t1, t2, t3⟩)
        · exact Or.inl z
        · exact Or.inr ⟨y, Nat.le_refl _, by omega, z⟩
        · exact Or.inr ⟨t, by omega, t2, t3⟩
      · rintro (z | ⟨t, t1, t2, t3⟩)
        · exact Or.inl (Or.inl z)
        · by_cases q : t = y
          · rw [q] at t3; exact Or.inl (Or.inr t3)
          · exact Or.inr ⟨t, by omega, t2, t3⟩
  have outer : ∀ (dd x : Nat) (v : Int32) (P : Nat → Prop) (o8 o9 o11 o12 : Option Value), x + dd = bN K R C → LsI P v → ∃ v', mm_run (mm_pr tb_X11_mends) (6, [some (.ref 39), some (.long mine), none, some (.long em), none, some (.int (i32 l)), some (.int v), some (.int (i32 x)), o8, o9, none, o11, o12], [], (k + 64, e, (mm_RM r), I, J, A, B)) = some (.inl (some (.int v')), (k + 64, e, (mm_RM r), I, J, A, B)) ∧ LsI (fun c => P c ∨ ∃ s t, x ≤ s ∧ t < s ∧ s < bN K R C ∧ OtP K R C mine em l s t c) v' := by
    intro dd
    induction dd with
    | zero =>
      intro x v P o8 o9 o11 o12 hx hv
      refine ⟨v, ?_, hv.cg (fun c => ⟨fun z => Or.inl z, fun z => z.resolve_right (fun ⟨s, t, t1, t2, t3, _⟩ => by omega)⟩)⟩
      rw [sg_X11_mends_6, h.cells, if_neg (by rw [i32_lt (by omega) (by omega)]; omega)]
    | succ dd ih =>
      intro x v P o8 o9 o11 o12 hx hv
      obtain ⟨v1, a9, a11, a12, e1, hv1⟩ := inner x x 0 v P o9 o11 o12 (by omega) (by omega) hv
      obtain ⟨v2, e2, hv2⟩ := ih (x + 1) v1 _ (some (.int (i32 x))) a9 a11 a12 (by omega) hv1
      refine ⟨v2, ?_, hv2.cg (fun c => ?_)⟩
      · rw [sg_X11_mends_6, h.cells, if_pos (by rw [i32_lt (by omega) (by omega)]; omega)]
        exact e1.trans e2
      · constructor
        · rintro ((z | ⟨t, t1, t2, t3⟩) | ⟨s, t, t1, t2, t3, t4⟩)
          · exact Or.inl z
          · exact Or.inr ⟨x, t, Nat.le_refl _, t2, by omega, t3⟩
          · exact Or.inr ⟨s, t, by omega, t2, t3, t4⟩
        · rintro (z | ⟨s, t, t1, t2, t3, t4⟩)
          · exact Or.inl (Or.inl z)
          · by_cases q : s = x
            · rw [q] at t4 t2; exact Or.inl (Or.inr ⟨t, Nat.zero_le _, t2, t4⟩)
            · exact Or.inr ⟨s, t, by omega, t2, t3, t4⟩
  obtain ⟨v, e1, hv⟩ := outer (bN K R C) 0 iN (fun _ => False) none none none none (by omega) (Or.inl ⟨rfl, fun _ z => z⟩)
  have : v = svI K R C mine em l := LsI_sv h36 (hv.cg (fun c => by
    constructor
    · rintro (z | ⟨s, t, t1, t2, t3, t4⟩)
      · exact z.elim
      · exact ⟨⟨s, t, t4.1, t4.2.1, t4.2.2.1⟩, t4.2.2.2⟩
    · rintro ⟨⟨x, y, hb, h1, h2⟩, h3⟩
      rcases Nat.lt_trichotomy y x with q | q | q
      · exact Or.inr ⟨x, y, Nat.zero_le _, q, hb.1, hb, h1, h2, h3⟩
      · exact absurd q.symm hb.2.2.1
      · obtain ⟨b1, b2, b3, b4, b5, b6, b7, b8, b9⟩ := hb
        refine Or.inr ⟨y, x, Nat.zero_le _, q, b2, ⟨b2, b1, fun z => b3 z.symm, b5, b4, bool_f (fun z => by rw [nb_sym h.v b2 b1 z] at b6; cases b6), by rw [and_comm64]; exact b7, b9, b8⟩, h2, h1, h3⟩))
  rw [en_X11_mends, sg_X11_mends_0, ← this]
  exact e1
end
