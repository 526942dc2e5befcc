/-! playing out: the stones -/
noncomputable def svX (K R C : Nat) (mine em : Int64) (l : Nat) : Int32 := if l < 64 then svI K R C mine em l else iN
noncomputable def poC (K R C : Nat) (mine em : Int64) (l n : Nat) : Nat := if svX K R C mine em l = iN then mlo (clrN (nx31 n / 65536 % gn em) em) else (svX K R C mine em l).toInt.toNat
noncomputable def poN (K R C : Nat) (mine em : Int64) (l n : Nat) : Nat := if svX K R C mine em l = iN then nx31 n else n
noncomputable def po (K R C : Nat) : Nat → Int64 → Int64 → Nat → Nat → Nat → Int64
  | 0, a, _, _, _, _ => a
  | f + 1, a, b, t, l, n => po K R C f (pt t 0 (poC K R C (if t = 0 then a else b) (emp (bN K R C) a b) l n) a) (pt t 1 (poC K R C (if t = 0 then a else b) (emp (bN K R C) a b) l n) b) (1 - t) (poC K R C (if t = 0 then a else b) (emp (bN K R C) a b) l n) (poN K R C (if t = 0 then a else b) (emp (bN K R C) a b) l n)
def lst (l : Nat) : Int32 := if l < 64 then i32 l else iN
theorem emp36 {N : Nat} (h : N ≤ 36) (a b : Int64) (c : Nat) (z : mb (emp N a b) c = true) : c < 36 := by
  have := (emp_EH h a b c).1 z
  omega
theorem poC_mem {K R C : Nat} {mine em : Int64} {l n : Nat} (h36 : ∀ c, mb em c = true → c < 36) (h0 : 0 < gn em) : mb em (poC K R C mine em l n) = true ∧ (svX K R C mine em l ≠ iN → svX K R C mine em l = i32 (poC K R C mine em l n)) := by
  unfold poC
  by_cases q : svX K R C mine em l = iN
  · rw [if_pos q]
    refine ⟨?_, fun z => absurd q z⟩
    obtain ⟨a1, a2⟩ := clr_mem (nx31 n / 65536 % gn em) em h36 (Nat.mod_lt _ h0)
    exact a2 _ (mlo_mb a1)
  · rw [if_neg q]
    unfold svX at q ⊢
    by_cases y : l < 64
    · rw [if_pos y] at q ⊢
      unfold svI at q ⊢
      by_cases x : svW K R C mine em l = 0
      · rw [if_pos x] at q; exact absurd rfl q
      · rw [if_neg x]
        have m := mlo_mb x
        have m2 := m
        unfold svW at m2
        rw [mb_ms _ _ _ (by decide), Bool.and_eq_true, Bool.and_eq_true, decide_eq_true_eq] at m2
        rw [i32_ix (by have := m2.1; unfold svW; omega)]
        exact ⟨m2.2.1, fun _ => rfl⟩
    · rw [if_neg y] at q; exact absurd rfl q
theorem emp_pt {N : Nat} (h : N ≤ 36) {a b : Int64} {c t : Nat} (ht : t < 2) (hc : mb (emp N a b) c = true) : emp N (pt t 0 c a) (pt t 1 c b) = emp N a b &&& (mbit c ^^^ (-1)) ∧ gn (emp N (pt t 0 c a) (pt t 1 c b)) + 1 = gn (emp N a b) ∧ mb (emp N (pt t 0 c a) (pt t 1 c b)) c = false := by
  have c36 := emp36 h a b c hc
  have bits : ∀ d, mb (emp N (pt t 0 c a) (pt t 1 c b)) d = (mb (emp N a b) d && !decide (d = c)) := by
    intro d
    have e1 := emp_EH h (pt t 0 c a) (pt t 1 c b) d
    have e2 := emp_EH h a b d
    have p1 : (mb (pt t 0 c a) d = false ∧ mb (pt t 1 c b) d = false) ↔ (mb a d = false ∧ mb b d = false ∧ d ≠ c) := by
      have tt : t = 0 ∨ t = 1 := by omega
      rcases tt with q | q
      · subst q
        unfold pt
        rw [if_pos rfl, if_neg (by decide), mb_or, mb_bit _ _ (by omega), Bool.or_eq_false_iff, decide_eq_false_iff_not]
        exact ⟨fun z => ⟨z.1.1, z.2, fun y => z.1.2 y.symm⟩, fun z => ⟨⟨z.1, fun y => z.2.2 y.symm⟩, z.2.1⟩⟩
      · subst q
        unfold pt
        rw [if_neg (by decide), if_pos rfl, mb_or, mb_bit _ _ (by omega), Bool.or_eq_false_iff, decide_eq_false_iff_not]
        exact ⟨fun z => ⟨z.1, z.2.1, fun y => z.2.2 y.symm⟩, fun z => ⟨z.1, z.2.1, fun y => z.2.2 y.symm⟩⟩
    cases q : mb (emp N a b) d with
    | false =>
      refine bool_f (fun z => ?_)
      obtain ⟨z1, z2⟩ := e1.1 z
      obtain ⟨z3, z4, _⟩ := p1.1 z2
      rw [e2.2 ⟨z1, z3, z4⟩] at q
      cases q
    | true =>
      obtain ⟨z1, z2, z3⟩ := e2.1 q
      by_cases y : d = c
      · rw [decide_eq_true y]
        exact bool_f (fun z => (p1.1 (e1.1 z).2).2.2 y)
      · rw [decide_eq_false y]
        exact e1.2 ⟨z1, p1.2 ⟨z2, z3, y⟩⟩
  refine ⟨mb_ext (fun d hd => ?_), ?_, by rw [bits, decide_eq_true rfl, Bool.not_true, Bool.and_false]⟩
  · rw [bits, mb_and, mb_cpl _ _ hd, mb_bit _ _ (by omega)]
    by_cases y : c = d
    · rw [decide_eq_true y, decide_eq_true y.symm]
    · rw [decide_eq_false y, decide_eq_false (fun z => y z.symm)]
  · refine (cf_add (k := c) c36 ?_ hc (fun d hd => ?_)).symm
    · rw [bits, decide_eq_true rfl, Bool.not_true, Bool.and_false]
    · rw [bits, decide_eq_false hd, Bool.not_false, Bool.and_true]
theorem poN_lt {K R C : Nat} {mine em : Int64} {l n : Nat} (hn : n < 2147483648) : poN K R C mine em l n < 2147483648 := by
  unfold poN
  by_cases q : svX K R C mine em l = iN
  · rw [if_pos q]; exact nx31_lt n
  · rw [if_neg q]; exact hn
section
variable {K R C : Nat} (e : Nat) (I : Nat → Nat → Int32) (A : Nat → Nat → Int32) (B : Nat → Nat → Int64)
theorem sp_stonesOf0 (x1 x3 : Int64) (x5 x6 : Int32) : ∀ (f i : Nat) (a b : Int64) (t l n : Nat) (J : Nat → Nat → Int64) (o14 o15 o16 : Option Value), CB K R C I J A B → gn (emp (bN K R C) a b) = f → i + f ≤ 36 → t < 2 → (l < 64 → l < bN K R C) → n < 2147483648 → J 23 1 = j64 n → ∃ J', mm_run (mm_pr tb_X7_stonesOf0) (23, [some (.ref 23), some (.long x1), none, some (.long x3), none, some (.int x5), some (.int x6), some (.long a), none, some (.long b), none, some (.int (i32 t)), some (.int (lst l)), some (.int (i32 i)), o14, o15, o16], [], (79, e, mm_R0, I, J, A, B)) = some (.inl (some (.long (po K R C f a b t l n))), (79, e, mm_R0, I, J', A, B)) ∧ ∀ j, j ≠ 23 → J' j = J j := by
  intro f
  induction f with
  | zero =>
    intro i a b t l n J o14 o15 o16 h hg hi ht hl hn hJ
    have hN := bN_le h.v
    have z := gn_0 (emp36 hN a b) hg
    refine ⟨J, ?_, fun _ _ => rfl⟩
    have un : (J 1 10 &&& ((a ||| b) ^^^ (-1 : Int64))) = 0 := by rw [h.all]; exact z
    rw [sg_X7_stonesOf0_23]
    by_cases q : i < 36
    · rw [if_pos (show i32 i < (36 : Int32) from (i32_lt (b := 36) (by omega) (by decide)).2 q), if_pos un, sg_X7_stonesOf0_158]
      rfl
    · rw [if_neg (show ¬ i32 i < (36 : Int32) from fun y => q ((i32_lt (b := 36) (by omega) (by decide)).1 y)), sg_X7_stonesOf0_158]
      rfl
  | succ f ih =>
    intro i a b t l n J o14 o15 o16 h hg hi ht hl hn hJ
    have hN := bN_le h.v
    have un : (J 1 10 &&& ((a ||| b) ^^^ (-1 : Int64))) = emp (bN K R C) a b := by rw [h.all]; rfl
    have h36 := emp36 hN a b
    have unf : po K R C (f + 1) a b t l n = po K R C f (pt t 0 (poC K R C (if t = 0 then a else b) (emp (bN K R C) a b) l n) a) (pt t 1 (poC K R C (if t = 0 then a else b) (emp (bN K R C) a b) l n) b) (1 - t) (poC K R C (if t = 0 then a else b) (emp (bN K R C) a b) l n) (poN K R C (if t = 0 then a else b) (emp (bN K R C) a b) l n) := rfl
    obtain ⟨cm, cs⟩ := poC_mem (K := K) (R := R) (C := C) (mine := if t = 0 then a else b) (l := l) (n := n) h36 (by omega)
    have ne : ¬ (emp (bN K R C) a b = 0) := mne_of cm
    have cN := ((emp_EH hN a b _).1 cm).1
    have nn : poN K R C (if t = 0 then a else b) (emp (bN K R C) a b) l n < 2147483648 := poN_lt hn
    have st1 : ∃ o16', mm_run (mm_pr tb_X7_stonesOf0) (23, [some (.ref 23), some (.long x1), none, some (.long x3), none, some (.int x5), some (.int x6), some (.long a), none, some (.long b), none, some (.int (i32 t)), some (.int (lst l)), some (.int (i32 i)), o14, o15, o16], [], (79, e, mm_R0, I, J, A, B)) = mm_run (mm_pr tb_X7_stonesOf0) (89, [some (.ref 23), some (.long x1), none, some (.long x3), none, some (.int x5), some (.int x6), some (.long a), none, some (.long b), none, some (.int (i32 t)), some (.int (lst l)), some (.int (i32 i)), some (.long (emp (bN K R C) a b)), none, o16'], [.int (svX K R C (if t = 0 then a else b) (emp (bN K R C) a b) l)], (79, e, mm_R0, I, J, A, B)) := by
      refine ⟨o16, ?_⟩
      rw [sg_X7_stonesOf0_23, if_pos (show i32 i < (36 : Int32) from (i32_lt (b := 36) (by omega) (by decide)).2 (by omega)), un, if_neg ne]
      unfold svX lst
      by_cases q : l < 64
      · rw [if_pos q, if_pos q, if_neg (show ¬ i32 l = (-1 : Int32) from fun y => (iN_ne (a := l) (by omega)).1 y)]
        by_cases y : t = 0
        · subst y
          rw [if_pos (show i32 0 = 0 from rfl), if_pos rfl, sg_X7_stonesOf0_84, sp_saving e I J A B h (hl q) _ _ h36, mm_aft_v]
        · have t1 : t = 1 := by omega
          subst t1
          rw [if_neg (show ¬ i32 1 = 0 by decide), if_neg (by decide), sg_X7_stonesOf0_84, sp_saving e I J A B h (hl q) _ _ h36, mm_aft_v]
      · rw [if_neg q, if_neg q, if_pos (show iN = (-1 : Int32) from rfl)]
        rfl
    obtain ⟨o16', st1⟩ := st1
    have st2 : ∃ J2 x16, J2 23 1 = j64 (poN K R C (if t = 0 then a else b) (emp (bN K R C) a b) l n) ∧ (∀ j, j ≠ 23 → J2 j = J j) ∧ mm_run (mm_pr tb_X7_stonesOf0) (89, [some (.ref 23), some (.long x1), none, some (.long x3), none, some (.int x5), some (.int x6), some (.long a), none, some (.long b), none, some (.int (i32 t)), some (.int (lst l)), some (.int (i32 i)), some (.long (emp (bN K R C) a b)), none, o16'], [.int (svX K R C (if t = 0 then a else b) (emp (bN K R C) a b) l)], (79, e, mm_R0, I, J, A, B)) = mm_run (mm_pr tb_X7_stonesOf0) (108, [some (.ref 23), some (.long x1), none, some (.long x3), none, some (.int x5), some (.int x6), some (.long a), none, some (.long b), none, some (.int (i32 t)), some (.int (lst l)), some (.int (i32 i)), some (.long (emp (bN K R C) a b)), none, some (.int x16)], [.int (i32 (poC K R C (if t = 0 then a else b) (emp (bN K R C) a b) l n))], (79, e, mm_R0, I, J2, A, B)) := by
      by_cases q : svX K R C (if t = 0 then a else b) (emp (bN K R C) a b) l = iN
      · refine ⟨mm_up J 23 1 (j64 (nx31 n)), svX K R C (if t = 0 then a else b) (emp (bN K R C) a b) l, ?_, fun j hj => mm_up_row _ _ _ _ _ hj, ?_⟩
        · rw [mm_up_eq]; unfold poN; rw [if_pos q]
        · rw [sg_X7_stonesOf0_89, if_pos (show svX K R C (if t = 0 then a else b) (emp (bN K R C) a b) l = (-1 : Int32) from q), sp_drawnOf e I J A B hn hJ _ h36 (by omega), mm_aft_v, sg_X7_stonesOf0_103]
          unfold poC
          rw [if_pos q]
      · refine ⟨J, svX K R C (if t = 0 then a else b) (emp (bN K R C) a b) l, ?_, fun _ _ => rfl, ?_⟩
        · rw [hJ]; unfold poN; rw [if_neg q]
        · rw [sg_X7_stonesOf0_89, if_neg (show ¬ svX K R C (if t = 0 then a else b) (emp (bN K R C) a b) l = (-1 : Int32) from q), ← cs q]
    obtain ⟨J2, x16, j1, j2, st2⟩ := st2
    rw [unf]
    generalize poN K R C (if t = 0 then a else b) (emp (bN K R C) a b) l n = n' at nn j1 ⊢
    generalize poC K R C (if t = 0 then a else b) (emp (bN K R C) a b) l n = c at cm cN st2 ⊢
    obtain ⟨p1, p2, p3⟩ := emp_pt hN ht cm
    obtain ⟨J', k1, k2⟩ := ih (i + 1) (pt t 0 c a) (pt t 1 c b) (1 - t) c n' J2 (some (.long (emp (bN K R C) a b))) none (some (.int x16)) (h.fr rfl (j2 1 (by decide)) rfl rfl rfl rfl rfl) (by omega) (by omega) (by omega) (fun _ => cN) nn j1
    refine ⟨J', ?_, fun j hj => by rw [k2 j hj, j2 j hj]⟩
    rw [← k1, st1, st2, sg_X7_stonesOf0_108]
    have ll : lst c = i32 c := if_pos (by omega)
    rw [ll]
    by_cases y : t = 0
    · subst y
      rw [if_pos (show i32 0 = 0 from rfl), sg_X7_stonesOf0_125, if_pos (show i32 0 = 0 from rfl), sg_X7_stonesOf0_143, or_zero64]
      simp only [i32_l]
      rw [i32_add, i32_sub (by decide)]
      rfl
    · have t1 : t = 1 := by omega
      subst t1
      rw [if_neg (show ¬ i32 1 = 0 by decide), sg_X7_stonesOf0_125, if_neg (show ¬ i32 1 = 0 by decide), sg_X7_stonesOf0_143, or_zero64]
      simp only [i32_l]
      rw [i32_add, i32_sub (by decide)]
      rfl
end
section
variable {K R C : Nat} (k : Nat) (r : Nat → Nat → Value) (e : Nat) (I : Nat → Nat → Int32) (A : Nat → Nat → Int32) (B : Nat → Nat → Int64)
end
