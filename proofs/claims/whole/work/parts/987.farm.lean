/-! how far it is in the reference: from one side -/
theorem nb_dir {K R C c t : Nat} (v : bV K R C = true) (ht : t < bN K R C) : mb (bNb K R C c) t = true ↔ ∃ d, d < 6 ∧ bNx K R C c d = i32 t := by
  have hN := bN_le v
  unfold bNb
  rw [mb_ms _ _ _ (by omega), decide_eq_true ht, Bool.true_and]
  unfold bBe
  rw [Bool.or_eq_true, Bool.or_eq_true, Bool.or_eq_true, Bool.or_eq_true, Bool.or_eq_true, decide_eq_true_eq, decide_eq_true_eq, decide_eq_true_eq, decide_eq_true_eq, decide_eq_true_eq, decide_eq_true_eq]
  constructor
  · rintro (((((h | h) | h) | h) | h) | h)
    · exact ⟨0, by decide, h⟩
    · exact ⟨1, by decide, h⟩
    · exact ⟨2, by decide, h⟩
    · exact ⟨3, by decide, h⟩
    · exact ⟨4, by decide, h⟩
    · exact ⟨5, by decide, h⟩
  · rintro ⟨d, hd, h⟩
    have : d = 0 ∨ d = 1 ∨ d = 2 ∨ d = 3 ∨ d = 4 ∨ d = 5 := by omega
    rcases this with q | q | q | q | q | q <;> subst q
    · exact Or.inl (Or.inl (Or.inl (Or.inl (Or.inl h))))
    · exact Or.inl (Or.inl (Or.inl (Or.inl (Or.inr h))))
    · exact Or.inl (Or.inl (Or.inl (Or.inr h)))
    · exact Or.inl (Or.inl (Or.inr h))
    · exact Or.inl (Or.inr h)
    · exact Or.inr h
theorem nb_sym {K R C c d : Nat} (v : bV K R C = true) (hc : c < bN K R C) (hd : d < bN K R C) (h : mb (bNb K R C c) d = true) : mb (bNb K R C d) c = true := by
  have hN := bN_le v
  have s := all2_of (bAll_of b_sym v) hc hd
  unfold bNb at h ⊢
  rw [mb_ms _ _ _ (by omega)] at h ⊢
  rw [decide_eq_true hd, Bool.true_and] at h
  rw [decide_eq_true hc, Bool.true_and, ← beq_iff_eq.1 s]
  exact h
/-- the least on the cells around, in the first directions -/
def lsF (K R C : Nat) (f : Nat → Nat) (c : Nat) (b : Bool) : Nat → Nat
  | 0 => if b = true then 0 else 1000
  | d + 1 => if bNx K R C c d = iN then lsF K R C f c b d else if f (bNx K R C c d).toInt.toNat < lsF K R C f c b d then f (bNx K R C c d).toInt.toNat else lsF K R C f c b d
theorem lsF_le {K R C : Nat} {f : Nat → Nat} {c : Nat} {b : Bool} : ∀ d, lsF K R C f c b d ≤ (if b = true then 0 else 1000) := by
  intro d
  induction d with
  | zero => exact Nat.le_refl _
  | succ d ih =>
    show (if bNx K R C c d = iN then lsF K R C f c b d else if f (bNx K R C c d).toInt.toNat < lsF K R C f c b d then f (bNx K R C c d).toInt.toNat else lsF K R C f c b d) ≤ _
    split
    · exact ih
    · split
      · omega
      · exact ih
theorem lsF_nb {K R C : Nat} (v : bV K R C = true) {f : Nat → Nat} {c : Nat} {b : Bool} : ∀ d i, i < d → ∀ t, t < bN K R C → bNx K R C c i = i32 t → lsF K R C f c b d ≤ f t := by
  have hN := bN_le v
  intro d
  induction d with
  | zero => intro i hi; omega
  | succ d ih =>
    intro i hi t ht h
    show (if bNx K R C c d = iN then lsF K R C f c b d else if f (bNx K R C c d).toInt.toNat < lsF K R C f c b d then f (bNx K R C c d).toInt.toNat else lsF K R C f c b d) ≤ _
    by_cases q : i = d
    · subst q
      rw [h, if_neg (fun z => (iN_ne (a := t) (by omega)).1 z), i32_ix (by omega)]
      split <;> omega
    · have := ih i (by omega) t ht h
      split
      · exact this
      · split
        · omega
        · exact this
theorem lsF_at {K R C : Nat} (v : bV K R C = true) {f : Nat → Nat} {c : Nat} (hc : c < bN K R C) {b : Bool} : ∀ d, d ≤ 6 → (lsF K R C f c b d = (if b = true then 0 else 1000) ∨ ∃ t, t < bN K R C ∧ mb (bNb K R C c) t = true ∧ lsF K R C f c b d = f t) := by
  have hN := bN_le v
  intro d
  induction d with
  | zero => intro _; exact Or.inl rfl
  | succ d ih =>
    intro hd
    have un : lsF K R C f c b (d + 1) = (if bNx K R C c d = iN then lsF K R C f c b d else if f (bNx K R C c d).toInt.toNat < lsF K R C f c b d then f (bNx K R C c d).toInt.toNat else lsF K R C f c b d) := rfl
    rw [un]
    rcases b_nxc v hc (show d < 6 by omega) with q | ⟨m, m1, m2⟩
    · rw [if_pos q]; exact ih (by omega)
    · rw [m1, if_neg (fun z => (iN_ne (a := m) (by omega)).1 z), i32_ix (by omega)]
      split
      · exact Or.inr ⟨m, m2, (nb_dir v m2).2 ⟨d, by omega, m1⟩, rfl⟩
      · exact ih (by omega)
def itF (own oth : Int64) (c : Nat) : Nat := if mb own c = true then 0 else if mb oth c = true then 1000 else 1
def nwF (K R C : Nat) (f : Nat → Nat) (a own oth : Int64) (c : Nat) : Nat := if lsF K R C f c (mb a c) 6 + itF own oth c < f c then lsF K R C f c (mb a c) 6 + itF own oth c else f c
section
variable {K R C : Nat} (k : Nat) (r : Nat → Nat → Value) (e : Nat) (I : Nat → Nat → Int32) (J : Nat → Nat → Int64) (B : Nat → Nat → Int64)
theorem finds_cell (A : Nat → Nat → Int32) (h : MB K R C I A B) {p s c : Nat} (hp : p < 2) (hs : s < 4) (hc : c < bN K R C) (x3 : Int32) (f : Nat → Nat) (hf : ∀ x, x < bN K R C → A 62 x = i32 (f x) ∧ f x ≤ 1000) (o5 o6 o7 : Option Value) : ∃ o5' o6' o7', mm_run (mm_pr tb_X11_finds) (38, [some (.ref 39), some (.int (i32 p)), some (.int (i32 s)), some (.int x3), some (.int (i32 c)), o5, o6, o7], [], (k + 64, e, (mm_RM r), I, J, A, B)) = mm_run (mm_pr tb_X11_finds) (38, [some (.ref 39), some (.int (i32 p)), some (.int (i32 s)), some (.int x3), some (.int (i32 (c + 1))), o5', o6', o7'], [], (k + 64, e, (mm_RM r), I, J, mm_up A 62 c (i32 (nwF K R C f (bSs K R C s) (B 45 p) (B 45 (1 - p)) c)), B)) := by
  have hN := bN_le h.v
  have L : ∀ (dd d : Nat) (o7 : Option Value), d + dd = 6 → ∃ o7', mm_run (mm_pr tb_X11_finds) (73, [some (.ref 39), some (.int (i32 p)), some (.int (i32 s)), some (.int x3), some (.int (i32 c)), some (.int (i32 (lsF K R C f c (mb (bSs K R C s) c) d))), some (.int (i32 d)), o7], [], (k + 64, e, (mm_RM r), I, J, A, B)) = mm_run (mm_pr tb_X11_finds) (73, [some (.ref 39), some (.int (i32 p)), some (.int (i32 s)), some (.int x3), some (.int (i32 c)), some (.int (i32 (lsF K R C f c (mb (bSs K R C s) c) 6))), some (.int (i32 6)), o7'], [], (k + 64, e, (mm_RM r), I, J, A, B)) := by
    intro dd
    induction dd with
    | zero => intro d o7 hd; exact ⟨o7, by rw [show d = 6 by omega]⟩
    | succ dd ih =>
      intro d o7 hd
      have nx := h.nx c d hc (by omega)
      have ll := lsF_le (K := K) (R := R) (C := C) (f := f) (c := c) (b := mb (bSs K R C s) c) d
      have ll2 : lsF K R C f c (mb (bSs K R C s) c) d ≤ 1000 := by
        split at ll <;> omega
      have un : lsF K R C f c (mb (bSs K R C s) c) (d + 1) = (if bNx K R C c d = iN then lsF K R C f c (mb (bSs K R C s) c) d else if f (bNx K R C c d).toInt.toNat < lsF K R C f c (mb (bSs K R C s) c) d then f (bNx K R C c d).toInt.toNat else lsF K R C f c (mb (bSs K R C s) c) d) := rfl
      rw [sg_X11_finds_73]
      simp (disch := omega) only [i32_l, iN_l, i32_add, i32_mul, i32_r0, i32_r1, run_bi, run_bi', i32_sub, decide_eq_true_eq, bi_rt, bi_em, bi_0, bi_1, i32_lt, i32_eq, iN_ne, iN_lt, iN_nlt, i32_ix, i32_in,  mm_aft_v, mm_aft_n, mm_aft_x, if_pos, if_neg, ite_true, ite_false, if_true, if_false, not_false_eq_true, not_true_eq_false, nx]
      rcases b_nxc h.v hc (show d < 6 by omega) with q | ⟨m, m1, m2⟩
      · obtain ⟨o7', i1⟩ := ih (d + 1) (some (.int iN)) (by omega)
        rw [un, if_pos q] at i1
        refine ⟨o7', ?_⟩
        rw [← i1, q]
        simp (disch := omega) only [i32_l, iN_l, i32_add, i32_mul, i32_r0, i32_r1, run_bi, run_bi', i32_sub, decide_eq_true_eq, bi_rt, bi_em, bi_0, bi_1, i32_lt, i32_eq, iN_ne, iN_lt, iN_nlt, i32_ix, i32_in,  mm_aft_v, mm_aft_n, mm_aft_x, if_pos, if_neg, ite_true, ite_false, if_true, if_false, not_false_eq_true, not_true_eq_false, sg_X11_finds_123, sg_X11_finds_125]
      · obtain ⟨f1, f2⟩ := hf m m2
        obtain ⟨o7', i1⟩ := ih (d + 1) (some (.int (i32 m))) (by omega)
        rw [un, m1, if_neg (fun z => (iN_ne (a := m) (by omega)).1 z), i32_ix (by omega)] at i1
        refine ⟨o7', ?_⟩
        rw [← i1, m1]
        by_cases y : f m < lsF K R C f c (mb (bSs K R C s) c) d
        · rw [if_pos y]
          simp (disch := omega) only [i32_l, iN_l, i32_add, i32_mul, i32_r0, i32_r1, run_bi, run_bi', i32_sub, decide_eq_true_eq, bi_rt, bi_em, bi_0, bi_1, i32_lt, i32_eq, iN_ne, iN_lt, iN_nlt, i32_ix, i32_in,  mm_aft_v, mm_aft_n, mm_aft_x, if_pos, if_neg, ite_true, ite_false, if_true, if_false, not_false_eq_true, not_true_eq_false, f1, y, sg_X11_finds_125]
        · rw [if_neg y]
          simp (disch := omega) only [i32_l, iN_l, i32_add, i32_mul, i32_r0, i32_r1, run_bi, run_bi', i32_sub, decide_eq_true_eq, bi_rt, bi_em, bi_0, bi_1, i32_lt, i32_eq, iN_ne, iN_lt, iN_nlt, i32_ix, i32_in,  mm_aft_v, mm_aft_n, mm_aft_x, if_pos, if_neg, ite_true, ite_false, if_true, if_false, not_false_eq_true, not_true_eq_false, f1, y, sg_X11_finds_123, sg_X11_finds_125]
  obtain ⟨o7', l1⟩ := L 6 0 o7 rfl
  have l0 : lsF K R C f c (mb (bSs K R C s) c) 0 = (if mb (bSs K R C s) c = true then 0 else 1000) := rfl
  have lb := lsF_le (K := K) (R := R) (C := C) (f := f) (c := c) (b := mb (bSs K R C s) c) 6
  have lb2 : lsF K R C f c (mb (bSs K R C s) c) 6 ≤ 1000 := by
    split at lb <;> omega
  obtain ⟨f1, f2⟩ := hf c hc
  refine ⟨some (.int (i32 (lsF K R C f c (mb (bSs K R C s) c) 6))), some (.int (i32 (itF (B 45 p) (B 45 (1 - p)) c))), o7', ?_⟩
  have toIt : mm_run (mm_pr tb_X11_finds) (38, [some (.ref 39), some (.int (i32 p)), some (.int (i32 s)), some (.int x3), some (.int (i32 c)), o5, o6, o7], [], (k + 64, e, (mm_RM r), I, J, A, B)) = mm_run (mm_pr tb_X11_finds) (73, [some (.ref 39), some (.int (i32 p)), some (.int (i32 s)), some (.int x3), some (.int (i32 c)), some (.int (i32 (lsF K R C f c (mb (bSs K R C s) c) 0))), some (.int (i32 0)), o7], [], (k + 64, e, (mm_RM r), I, J, A, B)) := by
    rw [sg_X11_finds_38, h.cells, l0]
    simp (disch := omega) only [i32_l, iN_l, i32_add, i32_mul, i32_r0, i32_r1, run_bi, run_bi', i32_sub, decide_eq_true_eq, bi_rt, bi_em, bi_0, bi_1, i32_lt, i32_eq, iN_ne, iN_lt, iN_nlt, i32_ix, i32_in,  mm_aft_v, mm_aft_n, mm_aft_x, if_pos, if_neg, ite_true, ite_false, if_true, if_false, not_false_eq_true, not_true_eq_false, h.sd s hs, sp_Mhas]
    rw [sg_X11_finds_58]
    cases mb (bSs K R C s) c with
    | true => rw [if_neg (show ¬ bi true = 0 by decide), if_pos rfl, sg_X11_finds_68]; rfl
    | false => rw [if_pos (show bi false = 0 from rfl), if_neg (by decide), sg_X11_finds_68]; rfl
  rw [toIt, l1]
  have fin : ∀ it, it = itF (B 45 p) (B 45 (1 - p)) c → mm_run (mm_pr tb_X11_finds) (174, [some (.ref 39), some (.int (i32 p)), some (.int (i32 s)), some (.int x3), some (.int (i32 c)), some (.int (i32 (lsF K R C f c (mb (bSs K R C s) c) 6))), some (.int (i32 6)), o7'], [.int (i32 it)], (k + 64, e, (mm_RM r), I, J, A, B)) = mm_run (mm_pr tb_X11_finds) (38, [some (.ref 39), some (.int (i32 p)), some (.int (i32 s)), some (.int x3), some (.int (i32 (c + 1))), some (.int (i32 (lsF K R C f c (mb (bSs K R C s) c) 6))), some (.int (i32 (itF (B 45 p) (B 45 (1 - p)) c))), o7'], [], (k + 64, e, (mm_RM r), I, J, mm_up A 62 c (i32 (nwF K R C f (bSs K R C s) (B 45 p) (B 45 (1 - p)) c)), B)) := by
    intro it hit
    have itb : it ≤ 1000 := by
      rw [hit]; unfold itF
      split
      · omega
      · split <;> omega
    rw [sg_X11_finds_174]
    unfold nwF
    rw [← hit]
    by_cases y : lsF K R C f c (mb (bSs K R C s) c) 6 + it < f c
    · rw [if_pos y]
      simp (disch := omega) only [i32_l, iN_l, i32_add, i32_mul, i32_r0, i32_r1, run_bi, run_bi', i32_sub, decide_eq_true_eq, bi_rt, bi_em, bi_0, bi_1, i32_lt, i32_eq, iN_ne, iN_lt, iN_nlt, i32_ix, i32_in,  mm_aft_v, mm_aft_n, mm_aft_x, if_pos, if_neg, ite_true, ite_false, if_true, if_false, not_false_eq_true, not_true_eq_false, f1, y, sg_X11_finds_212]
    · rw [if_neg y]
      simp (disch := omega) only [i32_l, iN_l, i32_add, i32_mul, i32_r0, i32_r1, run_bi, run_bi', i32_sub, decide_eq_true_eq, bi_rt, bi_em, bi_0, bi_1, i32_lt, i32_eq, iN_ne, iN_lt, iN_nlt, i32_ix, i32_in,  mm_aft_v, mm_aft_n, mm_aft_x, if_pos, if_neg, ite_true, ite_false, if_true, if_false, not_false_eq_true, not_true_eq_false, f1, y, sg_X11_finds_212]
  rw [sg_X11_finds_73]
  simp (disch := omega) only [i32_l, iN_l, i32_add, i32_mul, i32_r0, i32_r1, run_bi, run_bi', i32_sub, decide_eq_true_eq, bi_rt, bi_em, bi_0, bi_1, i32_lt, i32_eq, iN_ne, iN_lt, iN_nlt, i32_ix, i32_in,  mm_aft_v, mm_aft_n, mm_aft_x, if_pos, if_neg, ite_true, ite_false, if_true, if_false, not_false_eq_true, not_true_eq_false, sp_Mhas]
  rw [sg_X11_finds_144]
  cases q1 : mb (B 45 p) c with
  | true =>
    rw [if_neg (show ¬ bi true = 0 by decide)]
    exact fin 0 (by unfold itF; rw [q1, if_pos rfl])
  | false =>
    rw [if_pos (show bi false = 0 from rfl)]
    simp (disch := omega) only [i32_l, iN_l, i32_add, i32_mul, i32_r0, i32_r1, run_bi, run_bi', i32_sub, decide_eq_true_eq, bi_rt, bi_em, bi_0, bi_1, i32_lt, i32_eq, iN_ne, iN_lt, iN_nlt, i32_ix, i32_in,  mm_aft_v, mm_aft_n, mm_aft_x, if_pos, if_neg, ite_true, ite_false, if_true, if_false, not_false_eq_true, not_true_eq_false, sp_Mhas]
    rw [sg_X11_finds_164]
    cases q2 : mb (B 45 (1 - p)) c with
    | true =>
      rw [if_neg (show ¬ bi true = 0 by decide)]
      exact fin 1000 (by unfold itF; rw [q1, q2]; rfl)
    | false =>
      rw [if_pos (show bi false = 0 from rfl)]
      exact fin 1 (by unfold itF; rw [q1, q2]; rfl)
theorem sp_Mfinds (A : Nat → Nat → Int32) (h : MB K R C I A B) {p s : Nat} (hp : p < 2) (hs : s < 4) {fr : Int64} (hfr : ∀ c, c < bN K R C → (mb fr c = true ↔ (mb (B 45 p) c = false ∧ mb (B 45 (1 - p)) c = false))) (hd : ∀ c, mb (B 45 p) c = true → mb (B 45 (1 - p)) c = false) : ∃ A', f_X11_finds [.ref 39, .int (i32 p), .int (i32 s)] (k + 64, e, (mm_RM r), I, J, A, B) = some (.inl none, (k + 64, e, (mm_RM r), I, J, A', B)) ∧ (∀ c, c < bN K R C → ∃ v, A' 62 c = i32 v ∧ Ds (bN K R C) (bNb K R C) (bSs K R C s) (B 45 p) fr c v) ∧ (∀ i, i ≠ 62 → A' i = A i) := by
  have hN := bN_le h.v
  obtain ⟨a, ha⟩ : ∃ a, a = bSs K R C s := ⟨_, rfl⟩
  obtain ⟨own, hown⟩ : ∃ own, own = B 45 p := ⟨_, rfl⟩
  obtain ⟨ot, hot⟩ : ∃ ot, ot = B 45 (1 - p) := ⟨_, rfl⟩
  rw [← hown, ← hot] at hfr hd
  rw [← ha, ← hown]
  have mbA : ∀ A' : Nat → Nat → Int32, (∀ i, i ≠ 62 → A' i = A i) → MB K R C I A' B := fun A' hA => h.fr (fun _ _ => rfl) (hA 40 (by decide)) (hA 41 (by decide)) (hA 42 (by decide)) rfl rfl
  -- weights
  have itp : ∀ c, c < bN K R C → psw own fr c → itF own ot c = wt own c := by
    intro c hc hps
    unfold itF wt
    rcases hps with q | q
    · rw [if_pos q, if_pos q]
    · obtain ⟨q1, q2⟩ := (hfr c hc).1 q
      rw [if_neg (by rw [q1]; decide), if_neg (by rw [q2]; decide), if_neg (by rw [q1]; decide)]
  have itn : ∀ c, c < bN K R C → ¬ psw own fr c → itF own ot c = 1000 := by
    intro c hc hps
    unfold itF
    have q1 : mb own c = false := bool_f (fun z => hps (Or.inl z))
    have q2 : mb ot c = true := by
      cases y : mb ot c with
      | true => rfl
      | false => exact absurd (Or.inr ((hfr c hc).2 ⟨q1, y⟩)) hps
    rw [if_neg (by rw [q1]; decide), if_pos q2]
  -- a pass
  have pass : ∀ (f0 : Nat → Nat) (x3 : Int32) (dd c : Nat) (f : Nat → Nat) (A' : Nat → Nat → Int32) (o5 o6 o7 : Option Value), c + dd = bN K R C → (∀ i, i ≠ 62 → A' i = A i) → (∀ x, x < bN K R C → A' 62 x = i32 (f x) ∧ f x ≤ 1000) → (∀ x, x < bN K R C → (f x = 1000 ∨ RP (bN K R C) (bNb K R C) a own fr (f x) x)) → (∀ x, x < bN K R C → f x ≤ f0 x) → (∀ x, x < c → psw own fr x → (mb a x = true → f x ≤ wt own x) ∧ (∀ y, y < bN K R C → mb (bNb K R C y) x = true → f0 y < 1000 → f x ≤ f0 y + wt own x)) → ∃ (f' : Nat → Nat) (A'' : Nat → Nat → Int32) (o5' o6' o7' : Option Value), mm_run (mm_pr tb_X11_finds) (38, [some (.ref 39), some (.int (i32 p)), some (.int (i32 s)), some (.int x3), some (.int (i32 c)), o5, o6, o7], [], (k + 64, e, (mm_RM r), I, J, A', B)) = mm_run (mm_pr tb_X11_finds) (27, [some (.ref 39), some (.int (i32 p)), some (.int (i32 s)), some (.int (x3 + 1)), some (.int (i32 (bN K R C))), o5', o6', o7'], [], (k + 64, e, (mm_RM r), I, J, A'', B)) ∧ (∀ i, i ≠ 62 → A'' i = A i) ∧ (∀ x, x < bN K R C → A'' 62 x = i32 (f' x) ∧ f' x ≤ 1000) ∧ (∀ x, x < bN K R C → (f' x = 1000 ∨ RP (bN K R C) (bNb K R C) a own fr (f' x) x)) ∧ (∀ x, x < bN K R C → f' x ≤ f0 x) ∧ (∀ x, x < bN K R C → psw own fr x → (mb a x = true → f' x ≤ wt own x) ∧ (∀ y, y < bN K R C → mb (bNb K R C y) x = true → f0 y < 1000 → f' x ≤ f0 y + wt own x)) := by
    intro f0 x3 dd
    induction dd with
    | zero =>
      intro c f A' o5 o6 o7 hc hA h62 hsd hle hg
      have cn : c = bN K R C := by omega
      rw [cn] at hg
      refine ⟨f, A', o5, o6, o7, ?_, hA, h62, hsd, hle, hg⟩
      rw [sg_X11_finds_38, h.cells, if_neg (by rw [i32_lt (by omega) (by omega)]; omega), cn]
    | succ dd ih =>
      intro c f A' o5 o6 o7 hc hA h62 hsd hle hg
      have cN : c < bN K R C := by omega
      obtain ⟨p5, p6, p7, e1⟩ := finds_cell k r e I J B A' (mbA A' hA) hp hs cN x3 f h62 o5 o6 o7
      rw [← ha, ← hown, ← hot] at e1
      obtain ⟨v, hv⟩ : ∃ v, v = nwF K R C f a own ot c := ⟨_, rfl⟩
      rw [← hv] at e1
      have lb := lsF_le (K := K) (R := R) (C := C) (f := f) (c := c) (b := mb a c) 6
      have un : v = (if lsF K R C f c (mb a c) 6 + itF own ot c < f c then lsF K R C f c (mb a c) 6 + itF own ot c else f c) := hv
      have vle : v ≤ f c := by rw [un]; split <;> omega
      have vle2 : v ≤ lsF K R C f c (mb a c) 6 + itF own ot c := by rw [un]; split <;> omega
      have vsd : v = 1000 ∨ RP (bN K R C) (bNb K R C) a own fr v c := by
        rw [un]
        split
        · next hlt =>
          right
          have fc := (h62 c cN).2
          have pc : psw own fr c := Classical.byContradiction (fun z => by have := itn c cN z; omega)
          rw [itp c cN pc] at hlt ⊢
          rcases lsF_at h.v (f := f) cN (b := mb a c) 6 (Nat.le_refl _) with q | ⟨t, t1, t2, t3⟩
          · cases hm : mb a c with
            | true =>
              rw [hm, if_pos rfl] at q
              rw [q, Nat.zero_add]
              exact RP.base cN hm pc
            | false =>
              rw [hm, if_neg (by decide)] at q
              rw [hm] at hlt
              omega
          · rw [t3] at hlt ⊢
            rcases hsd t t1 with y | y
            · omega
            · exact y.step cN (nb_sym h.v cN t1 t2) pc
        · exact hsd c cN
      obtain ⟨f', A'', o5', o6', o7', i1, i2⟩ := ih (c + 1) (fun x => if x = c then v else f x) (mm_up A' 62 c (i32 v)) p5 p6 p7 (by omega) (fun i hi => by rw [mm_up_row _ _ _ _ _ hi]; exact hA i hi) (fun x hx => by
          by_cases y : x = c
          · subst y; rw [mm_up_eq, if_pos rfl]; exact ⟨rfl, by have := (h62 x hx).2; omega⟩
          · rw [mm_up_ne2 _ _ _ _ _ _ y, if_neg y]; exact h62 x hx) (fun x hx => by
          by_cases y : x = c
          · subst y; rw [if_pos rfl]; exact vsd
          · rw [if_neg y]; exact hsd x hx) (fun x hx => by
          by_cases y : x = c
          · subst y; rw [if_pos rfl]; have := hle x hx; omega
          · rw [if_neg y]; exact hle x hx) (fun x hx hps => by
          by_cases y : x = c
          · subst y
            rw [if_pos rfl]
            rw [itp x cN hps] at vle2
            refine ⟨fun hm => ?_, fun y y1 y2 y3 => ?_⟩
            · rw [hm, if_pos rfl] at lb
              rw [hm] at vle2
              omega
            · obtain ⟨d, d1, d2⟩ := (nb_dir h.v y1).1 (nb_sym h.v y1 cN y2)
              have := lsF_nb h.v (f := f) (c := x) (b := mb a x) 6 d d1 y y1 d2
              have := hle y y1
              omega
          · rw [if_neg y]; exact hg x (by omega) hps)
      exact ⟨f', A'', o5', o6', o7', by rw [e1]; exact i1, i2⟩
  -- all passes
  have passes : ∀ (dd n : Nat) (f : Nat → Nat) (A' : Nat → Nat → Int32) (o4 o5 o6 o7 : Option Value), n + dd = bN K R C + 1 → (∀ i, i ≠ 62 → A' i = A i) → (∀ x, x < bN K R C → A' 62 x = i32 (f x) ∧ f x ≤ 1000) → (∀ x, x < bN K R C → (f x = 1000 ∨ RP (bN K R C) (bNb K R C) a own fr (f x) x)) → ((∀ c, c < bN K R C → Ds (bN K R C) (bNb K R C) a own fr c (f c)) ∨ n ≤ cf (fun c => pdec (Ds (bN K R C) (bNb K R C) a own fr c (f c))) (bN K R C)) → ∃ A'', mm_run (mm_pr tb_X11_finds) (27, [some (.ref 39), some (.int (i32 p)), some (.int (i32 s)), some (.int (i32 n)), o4, o5, o6, o7], [], (k + 64, e, (mm_RM r), I, J, A', B)) = some (.inl none, (k + 64, e, (mm_RM r), I, J, A'', B)) ∧ (∀ c, c < bN K R C → ∃ v, A'' 62 c = i32 v ∧ Ds (bN K R C) (bNb K R C) a own fr c v) ∧ (∀ i, i ≠ 62 → A'' i = A i) := by
    intro dd
    induction dd with
    | zero =>
      intro n f A' o4 o5 o6 o7 hn hA h62 hsd hfin
      have all : ∀ c, c < bN K R C → Ds (bN K R C) (bNb K R C) a own fr c (f c) := by
        rcases hfin with q | q
        · exact q
        · have := cf_le (fun c => pdec (Ds (bN K R C) (bNb K R C) a own fr c (f c))) (bN K R C)
          omega
      refine ⟨A', ?_, fun c hc => ⟨f c, (h62 c hc).1, all c hc⟩, hA⟩
      rw [sg_X11_finds_27, h.cells, if_pos (by rw [i32_lt (by omega) (by omega)]; omega)]
    | succ dd ih =>
      intro n f A' o4 o5 o6 o7 hn hA h62 hsd hfin
      rw [sg_X11_finds_27, h.cells, if_neg (by rw [i32_lt (by omega) (by omega)]; omega)]
      obtain ⟨f', A'', o5', o6', o7', i1, i2, i3, i4, i5, i6⟩ := pass f (i32 n) (bN K R C) 0 f A' o5 o6 o7 (by omega) hA h62 hsd (fun _ _ => Nat.le_refl _) (fun x hx => absurd hx (Nat.not_lt_zero _))
      have keep : ∀ c, c < bN K R C → Ds (bN K R C) (bNb K R C) a own fr c (f c) → Ds (bN K R C) (bNb K R C) a own fr c (f' c) := by
        intro c hc hD
        have := i5 c hc
        rcases hD with ⟨q1, q2, q3⟩ | ⟨q1, q2⟩
        · rcases i4 c hc with y | y
          · omega
          · have := q3 _ y
            rw [show f' c = f c by omega]
            exact Or.inl ⟨q1, q2, q3⟩
        · rcases i4 c hc with y | y
          · rw [y]; exact Or.inr ⟨rfl, q2⟩
          · exact absurd y (q2 _)
      have fin' : (∀ c, c < bN K R C → Ds (bN K R C) (bNb K R C) a own fr c (f' c)) ∨ n + 1 ≤ cf (fun c => pdec (Ds (bN K R C) (bNb K R C) a own fr c (f' c))) (bN K R C) := by
        by_cases q : ∀ c, c < bN K R C → Ds (bN K R C) (bNb K R C) a own fr c (f c)
        · left; intro c hc; exact keep c hc (q c hc)
        · have hnn : n ≤ cf (fun c => pdec (Ds (bN K R C) (bNb K R C) a own fr c (f c))) (bN K R C) := hfin.resolve_left q
          right
          have ex : ∃ c, c < bN K R C ∧ ¬ Ds (bN K R C) (bNb K R C) a own fr c (f c) := Classical.byContradiction (fun z => q (fun c hc => Classical.byContradiction (fun y => z ⟨c, hc, y⟩)))
          obtain ⟨d, d1, d2, d3, d4⟩ := Ds_next hN hsd ex
          have dnew : Ds (bN K R C) (bNb K R C) a own fr d (f' d) := by
            obtain ⟨g1, g2⟩ := i6 d d1 d3
            have sd := i4 d d1
            rcases d4 with ⟨a1, a2⟩ | ⟨pp, b1, b2, b3, b4, b5⟩
            · have le := g1 a1
              have wl := wt_le own d
              rcases a2 with ⟨x1, x2, x3⟩ | ⟨x1, _⟩
              · rcases sd with y | y
                · omega
                · have := x3 _ y
                  rw [show f' d = wt own d by omega]
                  exact Or.inl ⟨x1, x2, x3⟩
              · omega
            · have le := g2 pp b1 b2 (by omega)
              have wl := wt_le own d
              rcases b5 with ⟨x1, x2, x3⟩ | ⟨x1, _⟩
              · rcases sd with y | y
                · omega
                · have := x3 _ y
                  rw [show f' d = f pp + wt own d by omega]
                  exact Or.inl ⟨x1, x2, x3⟩
              · omega
          have lt := cf_lt2 (p := fun c => pdec (c < bN K R C ∧ Ds (bN K R C) (bNb K R C) a own fr c (f c))) (q := fun c => pdec (c < bN K R C ∧ Ds (bN K R C) (bNb K R C) a own fr c (f' c))) d1 (bool_f (fun z => d2 (pdec_t.1 z).2)) (pdec_t.2 ⟨d1, dnew⟩) (fun c hc => by
            have := pdec_t.1 hc
            exact pdec_t.2 ⟨this.1, keep c this.1 this.2⟩)
          have e1 : ∀ g : Nat → Nat, cf (fun c => pdec (c < bN K R C ∧ Ds (bN K R C) (bNb K R C) a own fr c (g c))) (bN K R C) = cf (fun c => pdec (Ds (bN K R C) (bNb K R C) a own fr c (g c))) (bN K R C) := fun g => cf_congr (fun c hc => by
            rw [Bool.eq_iff_iff, pdec_t, pdec_t]
            exact ⟨fun z => z.2, fun z => ⟨hc, z⟩⟩)
          rw [e1, e1] at lt
          omega
      obtain ⟨A3, j1, j2, j3⟩ := ih (n + 1) f' A'' (some (.int (i32 (bN K R C)))) o5' o6' o7' (by omega) i2 i3 i4 fin'
      refine ⟨A3, ?_, j2, j3⟩
      simp only [i32_l] at i1 ⊢
      rw [i1, i32_add]
      exact j1
  have init : ∀ (dd c : Nat) (A' : Nat → Nat → Int32), c + dd = bN K R C → (∀ i, i ≠ 62 → A' i = A i) → (∀ x, x < c → A' 62 x = i32 1000) → ∃ A'', mm_run (mm_pr tb_X11_finds) (2, [some (.ref 39), some (.int (i32 p)), some (.int (i32 s)), some (.int (i32 c)), none, none, none, none], [], (k + 64, e, (mm_RM r), I, J, A', B)) = mm_run (mm_pr tb_X11_finds) (27, [some (.ref 39), some (.int (i32 p)), some (.int (i32 s)), some (.int (i32 0)), none, none, none, none], [], (k + 64, e, (mm_RM r), I, J, A'', B)) ∧ (∀ i, i ≠ 62 → A'' i = A i) ∧ (∀ x, x < bN K R C → A'' 62 x = i32 1000) := by
    intro dd
    induction dd with
    | zero =>
      intro c A' hc hA hx
      refine ⟨A', ?_, hA, fun x h' => hx x (by omega)⟩
      rw [sg_X11_finds_2, h.cells, if_neg (by rw [i32_lt (by omega) (by omega)]; omega)]
      rfl
    | succ dd ih =>
      intro c A' hc hA hx
      obtain ⟨A'', i1, i2⟩ := ih (c + 1) (mm_up A' 62 c (i32 1000)) (by omega) (fun i hi => by rw [mm_up_row _ _ _ _ _ hi]; exact hA i hi) (fun x hx' => by
        by_cases y : x = c
        · subst y; rw [mm_up_eq]
        · rw [mm_up_ne2 _ _ _ _ _ _ y]; exact hx x (by omega))
      refine ⟨A'', ?_, i2⟩
      rw [← i1, sg_X11_finds_2, h.cells]
      simp (disch := omega) only [i32_l, iN_l, i32_add, i32_mul, i32_r0, i32_r1, run_bi, run_bi', i32_sub, decide_eq_true_eq, bi_rt, bi_em, bi_0, bi_1, i32_lt, i32_eq, iN_ne, iN_lt, iN_nlt, i32_ix, i32_in,  mm_aft_v, mm_aft_n, mm_aft_x, if_pos, if_neg, ite_true, ite_false, if_true, if_false, not_false_eq_true, not_true_eq_false]
  obtain ⟨A1, z1, z2, z3⟩ := init (bN K R C) 0 A (by omega) (fun _ _ => rfl) (fun x hx => absurd hx (Nat.not_lt_zero _))
  obtain ⟨A2, y1, y2, y3⟩ := passes (bN K R C + 1) 0 (fun _ => 1000) A1 none none none none (by omega) z2 (fun x hx => ⟨z3 x hx, Nat.le_refl _⟩) (fun _ _ => Or.inl rfl) (Or.inr (Nat.zero_le _))
  refine ⟨A2, ?_, y2, y3⟩
  rw [en_X11_finds, sg_X11_finds_0]
  exact z1.trans y1
end
