/-! the law's best play, all of it -/
section
variable {K R C : Nat} {lg : Nat → Nat} {m : Nat} {sw : Bool} {ea : Nat} {tk : Bool} {se pe us : Nat → Nat} {lo : Nat} {rc : Bool} {t : Nat} {tp : Nat → Nat} {pn : Nat} {ln : Nat → Nat} {tx : Nat → Nat → Nat} {n : Nat} {ra : Nat → Int} {pl wo ls : Nat → Nat} {c : Nat}
theorem fw_skip {f k : Nat} (h : ¬ mb (emp (bN K R C) (sN lg m sw 0) (sN lg m sw 1)) k = true) : (fwV K R C (sN lg m sw 0) (sN lg m sw 1) (m % 2) f (k + 1)) = (fwV K R C (sN lg m sw 0) (sN lg m sw 1) (m % 2) f k) ∧ (moV K R C (sN lg m sw 0) (sN lg m sw 1) (m % 2) f (k + 1)) = (moV K R C (sN lg m sw 0) (sN lg m sw 1) (m % 2) f k) := by
  constructor
  · show (if _ then _ else _) = _
    rw [if_neg (fun z => h z.1)]
  · show (if _ then _ else _) = _
    rw [if_neg (fun z => h z.1)]
/-- all moves tried -/
theorem play_all {f : Nat} (f8 : f ≤ 8) (hf : gn (emp (bN K R C) (sN lg m sw 0) (sN lg m sw 1)) = f + 1) (hj : nj K R C (sN lg m sw 0) (sN lg m sw 1)) (hw : wnr K R C lg m sw 0 = iN) (hus : us (m % 2) = 0) : ∀ d k (e : Nat) (I : Nat → Nat → Int32) (J : Nat → Nat → Int64) (A : Nat → Nat → Int32) (B : Nat → Nat → Int64) (o13 : Option Value), k + d = bN K R C → RWd K R C lg m sw ea tk se pe us 0 false t tp pn ln tx n ra pl wo ls c I J A B → ∃ e' I' J' A' B' o13', mm_run (mm_pr tb_L_plays) (245, [some (.ref 0), some (.ref 78), some (.int (i32 (gn (emp (bN K R C) (sN lg m sw 0) (sN lg m sw 1))))), some (.int (i32 (bestV K R C (sN lg m sw 0) (sN lg m sw 1) (m % 2)))), some (.int (si (lastV K R C (sN lg m sw 0) (sN lg m sw 1) (m % 2)))), some (.long (winV K R C (sN lg m sw 0) (sN lg m sw 1) (m % 2))), none, some (.int (i32 (m % 2))), some (.int (1 : Int32)), some (.int (1 : Int32)), some (.int (si (fwV K R C (sN lg m sw 0) (sN lg m sw 1) (m % 2) f k))), some (.int (si (moV K R C (sN lg m sw 0) (sN lg m sw 1) (m % 2) f k))), some (.int (i32 k)), o13], [], (79, e, mm_R0, I, J, A, B)) = mm_run (mm_pr tb_L_plays) (470, [some (.ref 0), some (.ref 78), some (.int (i32 (gn (emp (bN K R C) (sN lg m sw 0) (sN lg m sw 1))))), some (.int (i32 (bestV K R C (sN lg m sw 0) (sN lg m sw 1) (m % 2)))), some (.int (si (lastV K R C (sN lg m sw 0) (sN lg m sw 1) (m % 2)))), some (.long (winV K R C (sN lg m sw 0) (sN lg m sw 1) (m % 2))), none, some (.int (i32 (m % 2))), some (.int (1 : Int32)), some (.int (1 : Int32)), some (.int (si (fwV K R C (sN lg m sw 0) (sN lg m sw 1) (m % 2) f (bN K R C)))), some (.int (si (moV K R C (sN lg m sw 0) (sN lg m sw 1) (m % 2) f (bN K R C)))), some (.int (i32 (bN K R C))), o13'], [], (79, e', mm_R0, I', J', A', B')) ∧ RWd K R C lg m sw ea tk se pe us 0 false t tp pn ln tx n ra pl wo ls c I' J' A' B' ∧ e' ≤ e + 6 * d := by
  intro d
  induction d with
  | zero =>
    intro k e I J A B o13 hk h
    have e1 : k = bN K R C := by omega
    have bl := bN_le h.2.2.2.1.1
    have hN : A 78 ((0 : Int32)).toInt.toNat = i32 (bN K R C) := h.2.2.1.1
    refine ⟨e, I, J, A, B, o13, ?_, h, by omega⟩
    rw [sg_L_plays_245, hN, if_neg (by rw [i32_lt (by omega) (by omega)]; omega), e1]
  | succ d ih =>
    intro k e I J A B o13 hk h
    have w := h.2.2.2.1
    have bl := bN_le w.1
    have hN : A 78 ((0 : Int32)).toInt.toNat = i32 (bN K R C) := h.2.2.1.1
    by_cases hE : mb (emp (bN K R C) (sN lg m sw 0) (sN lg m sw 1)) k = true
    · obtain ⟨e1, I1, J1, A1, B1, p13, r1, r2, r3⟩ := play_one e I J A B h f8 hf hj hw hus hE o13
      obtain ⟨e', I', J', A', B', o13', q1, q2, q3⟩ := ih (k + 1) e1 I1 J1 A1 B1 p13 (by omega) r2
      exact ⟨e', I', J', A', B', o13', Eq.trans r1 q1, q2, by omega⟩
    · obtain ⟨e', I', J', A', B', o13', q1, q2, q3⟩ := ih (k + 1) e I J A B o13 (by omega) h
      refine ⟨e', I', J', A', B', o13', ?_, q2, by omega⟩
      rw [(fw_skip hE).1, (fw_skip hE).2] at q1
      refine Eq.trans ?_ q1
      have ce := qa_cell e I J A B h.1 w (d := k) (v := 0) (by omega) (by decide)
      have ce' : f_X10_cell [.ref 0, .int (i32 k), .int (0 : Int32)] (79, e, mm_R0, I, J, A, B) = some (.inl (some (.int (clV K R C lg m sw k 0))), (79, e, mm_R0, I, J, A, B)) := ce
      rw [sg_L_plays_245, hN, if_pos (by rw [i32_lt (by omega) (by omega)]; omega), if_neg (show ¬ (1 : Int32) = 0 by decide), ce', mm_aft_v, sg_L_plays_265, if_neg (show ¬ clV K R C lg m sw k 0 = (-1 : Int32) from fun z => hE ((cl0_iN k).1 z)), sg_L_plays_464, show i32 k + (1 : Int32) = i32 (k + 1) from i32_add k 1]
/-- no move is tried -/
theorem play_none : ∀ d k (e : Nat) (I : Nat → Nat → Int32) (J : Nat → Nat → Int64) (A : Nat → Nat → Int32) (B : Nat → Nat → Int64) (x10 x11 : Int32) (o13 : Option Value), k + d = bN K R C → RWd K R C lg m sw ea tk se pe us lo rc t tp pn ln tx n ra pl wo ls c I J A B → mm_run (mm_pr tb_L_plays) (245, [some (.ref 0), some (.ref 78), some (.int (i32 (gn (emp (bN K R C) (sN lg m sw 0) (sN lg m sw 1))))), some (.int (i32 (bestV K R C (sN lg m sw 0) (sN lg m sw 1) (m % 2)))), some (.int (si (lastV K R C (sN lg m sw 0) (sN lg m sw 1) (m % 2)))), some (.long (winV K R C (sN lg m sw 0) (sN lg m sw 1) (m % 2))), none, some (.int (i32 (m % 2))), some (.int (1 : Int32)), some (.int (0 : Int32)), some (.int x10), some (.int x11), some (.int (i32 k)), o13], [], (79, e, mm_R0, I, J, A, B)) = mm_run (mm_pr tb_L_plays) (470, [some (.ref 0), some (.ref 78), some (.int (i32 (gn (emp (bN K R C) (sN lg m sw 0) (sN lg m sw 1))))), some (.int (i32 (bestV K R C (sN lg m sw 0) (sN lg m sw 1) (m % 2)))), some (.int (si (lastV K R C (sN lg m sw 0) (sN lg m sw 1) (m % 2)))), some (.long (winV K R C (sN lg m sw 0) (sN lg m sw 1) (m % 2))), none, some (.int (i32 (m % 2))), some (.int (1 : Int32)), some (.int (0 : Int32)), some (.int x10), some (.int x11), some (.int (i32 (bN K R C))), o13], [], (79, e, mm_R0, I, J, A, B)) := by
  intro d
  induction d with
  | zero =>
    intro k e I J A B x10 x11 o13 hk h
    have e1 : k = bN K R C := by omega
    have bl := bN_le h.2.2.2.1.1
    have hN : A 78 ((0 : Int32)).toInt.toNat = i32 (bN K R C) := h.2.2.1.1
    rw [sg_L_plays_245, hN, if_neg (by rw [i32_lt (by omega) (by omega)]; omega), e1]
  | succ d ih =>
    intro k e I J A B x10 x11 o13 hk h
    have w := h.2.2.2.1
    have bl := bN_le w.1
    have hN : A 78 ((0 : Int32)).toInt.toNat = i32 (bN K R C) := h.2.2.1.1
    have q1 := ih (k + 1) e I J A B x10 x11 o13 (by omega) h
    refine Eq.trans ?_ q1
    have ce := qa_cell e I J A B h.1 w (d := k) (v := 0) (by omega) (by decide)
    have ce' : f_X10_cell [.ref 0, .int (i32 k), .int (0 : Int32)] (79, e, mm_R0, I, J, A, B) = some (.inl (some (.int (clV K R C lg m sw k 0))), (79, e, mm_R0, I, J, A, B)) := ce
    have s464 : mm_run (mm_pr tb_L_plays) (464, [some (.ref 0), some (.ref 78), some (.int (i32 (gn (emp (bN K R C) (sN lg m sw 0) (sN lg m sw 1))))), some (.int (i32 (bestV K R C (sN lg m sw 0) (sN lg m sw 1) (m % 2)))), some (.int (si (lastV K R C (sN lg m sw 0) (sN lg m sw 1) (m % 2)))), some (.long (winV K R C (sN lg m sw 0) (sN lg m sw 1) (m % 2))), none, some (.int (i32 (m % 2))), some (.int (1 : Int32)), some (.int (0 : Int32)), some (.int x10), some (.int x11), some (.int (i32 k)), o13], [], (79, e, mm_R0, I, J, A, B)) = mm_run (mm_pr tb_L_plays) (245, [some (.ref 0), some (.ref 78), some (.int (i32 (gn (emp (bN K R C) (sN lg m sw 0) (sN lg m sw 1))))), some (.int (i32 (bestV K R C (sN lg m sw 0) (sN lg m sw 1) (m % 2)))), some (.int (si (lastV K R C (sN lg m sw 0) (sN lg m sw 1) (m % 2)))), some (.long (winV K R C (sN lg m sw 0) (sN lg m sw 1) (m % 2))), none, some (.int (i32 (m % 2))), some (.int (1 : Int32)), some (.int (0 : Int32)), some (.int x10), some (.int x11), some (.int (i32 (k + 1))), o13], [], (79, e, mm_R0, I, J, A, B)) := by
      rw [sg_L_plays_464, show i32 k + (1 : Int32) = i32 (k + 1) from i32_add k 1]
    rw [sg_L_plays_245, hN, if_pos (by rw [i32_lt (by omega) (by omega)]; omega), if_neg (show ¬ (1 : Int32) = 0 by decide), ce', mm_aft_v, sg_L_plays_265]
    by_cases z : clV K R C lg m sw k 0 = (-1 : Int32)
    · rw [if_pos z, if_pos rfl]
      exact s464
    · rw [if_neg z]
      exact s464
theorem lw_plays (e : Nat) (I : Nat → Nat → Int32) (J : Nat → Nat → Int64) (A : Nat → Nat → Int32) (B : Nat → Nat → Int64) (h : RWd K R C lg m sw ea tk se pe us lo rc t tp pn ln tx n ra pl wo ls c I J A B) : LStp f_L_plays [.ref 0, .ref 78] c c 230 e I J A B := by
  have hb := h.2.2.2
  have hD := h.2.2.1
  have w := hb.1
  have v := w.1
  have hl := hb.2.1.1
  have bl := bN_le v
  have hx := hb.2.2.2.2.2.2.2.2.2.2.1
  have tm : m % 2 < 2 := Nat.mod_lt _ (by decide)
  have gl : gn (emp (bN K R C) (sN lg m sw 0) (sN lg m sw 1)) ≤ 36 := cf_le _ _
  have t2 := qa_told e I J A B h.1 w hl (v := 2) (by decide)
  rw [td_2] at t2
  unfold LStp
  rw [en_L_plays, sg_L_plays_0, show (2 : Int32) = i32 2 from rfl, t2, mm_aft_v, sg_L_plays_5]
  by_cases g9 : gn (emp (bN K R C) (sN lg m sw 0) (sN lg m sw 1)) ≤ 9
  · obtain ⟨e1, I1, J1, A1, B1, b1, b2, b3, b4⟩ := cx_best g9 e I J A B h.1
    have h1 := h.one b2 b3
    obtain ⟨e2, I2, J2, A2, B2, l1, l2, l3, l4⟩ := cx_lasts g9 e1 I1 J1 A1 B1 h1.1
    have h2 := h1.one l2 l3
    obtain ⟨e3, I3, J3, A3, B3, w1, w2, w3, w4⟩ := cx_wins g9 e2 I2 J2 A2 B2 h2.1
    have h3 : RWd K R C lg m sw ea tk se pe us lo rc t tp pn ln tx n ra pl wo ls c I3 J3 A3 B3 := h2.one w2 w3
    have t1 := qa_told e3 I3 J3 A3 B3 h3.1 w hl (v := 1) (by decide)
    have t3 := qa_told e3 I3 J3 A3 B3 h3.1 w hl (v := 3) (by decide)
    have t4 := qa_told e3 I3 J3 A3 B3 h3.1 w hl (v := 4) (by decide)
    rw [td_1] at t1
    rw [td_3] at t3
    rw [td_4] at t4
    have t3' : f_X10_told [.ref 0, .int (3 : Int32)] (79, e3, mm_R0, I3, J3, A3, B3) = some (.inl (some (.int (jnd K R C (sN lg m sw 0) (sN lg m sw 1)))), (79, e3, mm_R0, I3, J3, A3, B3)) := t3
    have t4' : f_X10_told [.ref 0, .int (4 : Int32)] (79, e3, mm_R0, I3, J3, A3, B3) = some (.inl (some (.int (wnr K R C lg m sw lo))), (79, e3, mm_R0, I3, J3, A3, B3)) := t4
    rw [if_neg (show ¬ (9 : Int32) < i32 (gn (emp (bN K R C) (sN lg m sw 0) (sN lg m sw 1))) by rw [show (9 : Int32) = i32 9 from rfl, i32_lt (by decide) (by omega)]; omega), b1, mm_aft_v, sg_L_plays_82, l1, mm_aft_v, sg_L_plays_87, w1, mm_aft_v, sg_L_plays_93, show (1 : Int32) = i32 1 from rfl, t1, mm_aft_v, sg_L_plays_100, t3', mm_aft_v, sg_L_plays_107]
    -- a board that is joined already
    have joined : ∀ j : Nat, j < 2 → jnd K R C (sN lg m sw 0) (sN lg m sw 1) = i32 j → (bestV K R C (sN lg m sw 0) (sN lg m sw 1) (m % 2)) = j → (lastV K R C (sN lg m sw 0) (sN lg m sw 1) (m % 2)) = 0 → (winV K R C (sN lg m sw 0) (sN lg m sw 1) (m % 2)) = 0 → farA K R C 0 (sN lg m sw 0) (emp (bN K R C) (sN lg m sw 0) (sN lg m sw 1)) = (if j = 0 then (0 : Int32) else (-1 : Int32)) → ∃ e' I' J' A' B', mm_aft (mm_pr tb_L_plays) 117 [some (.ref 0), some (.ref 78), some (.int (i32 (gn (emp (bN K R C) (sN lg m sw 0) (sN lg m sw 1))))), some (.int (i32 (bestV K R C (sN lg m sw 0) (sN lg m sw 1) (m % 2)))), some (.int (si (lastV K R C (sN lg m sw 0) (sN lg m sw 1) (m % 2)))), some (.long (winV K R C (sN lg m sw 0) (sN lg m sw 1) (m % 2))), none, some (.int (i32 (m % 2))), none, none, none, none, none, none] [.int (i32 (bestV K R C (sN lg m sw 0) (sN lg m sw 1) (m % 2)))] (f_X10_told [.ref 0, .int (3 : Int32)] (79, e3, mm_R0, I3, J3, A3, B3)) = some (.inl (some (.int (i32 1))), (79, e', mm_R0, I', J', A', B')) ∧ RX c I' J' A' B' ∧ e' ≤ e + 230 := by
      intro j j2 k1 k2 k3 k4 k5
      obtain ⟨e4, I4, J4, A4, B4, f1, f2, f3, f4⟩ := cx_far w (p := 0) (by decide) (fun z => absurd z.1 (by decide)) e3 I3 J3 A3 B3 h3.1
      refine ⟨e4, I4, J4, A4, B4, ?_, RWd.rx _ _ _ _ (h3.one f2 f3), by omega⟩
      have f1' : f_X10_far [.ref 0, .int (0 : Int32)] (79, e3, mm_R0, I3, J3, A3, B3) = some (.inl (some (.int (if j = 0 then (0 : Int32) else (-1 : Int32)))), (79, e4, mm_R0, I4, J4, A4, B4)) := by
        rw [← k5]; exact f1
      rw [t3', mm_aft_v, sg_L_plays_117, k1, k2, if_pos rfl, k3, if_pos (show si 0 = (0 : Int32) from rfl), k4, if_pos rfl, f1', mm_aft_v, sg_L_plays_137]
      rcases (show j = 0 ∨ j = 1 by omega) with q | q <;> subst q
      · rw [if_pos rfl, if_pos (show i32 0 = (0 : Int32) from rfl), sg_L_plays_146, if_pos rfl, sg_L_plays_154, if_pos (Or.inr rfl)]
        rfl
      · rw [if_neg (show ¬ i32 1 = (0 : Int32) by decide), sg_L_plays_146, if_neg (show ¬ (1 : Nat) = 0 by decide), if_pos rfl, sg_L_plays_154, if_pos (Or.inr rfl)]
        rfl
    rcases jnd_cases (K := K) (R := R) (C := C) (sN lg m sw 0) (sN lg m sw 1) with ⟨k1, k2⟩ | ⟨k1, k2, k3⟩ | ⟨k1, k2⟩
    · rw [if_neg (show ¬ jnd K R C (sN lg m sw 0) (sN lg m sw 1) = (-1 : Int32) by rw [k1]; decide)]
      refine joined 0 (by decide) k1 (by unfold bestV; rw [if_pos k2]) (by unfold lastV; rw [if_pos k2]) (by unfold winV; rw [if_pos k2]) ?_
      rw [if_pos rfl]
      exact far_joined v (fun c hc => sN_N w (by decide) hc) k2
    · have n0 : ¬ jnB K R C 0 (sN lg m sw 0) = true := by rw [k2]; decide
      rw [if_neg (show ¬ jnd K R C (sN lg m sw 0) (sN lg m sw 1) = (-1 : Int32) by rw [k1]; decide)]
      refine joined 1 (by decide) k1 (by unfold bestV; rw [if_neg n0, if_pos k3]) (by unfold lastV; rw [if_neg n0, if_pos k3]) (by unfold winV; rw [if_neg n0, if_pos k3]) ?_
      rw [if_neg (by decide)]
      have cells : ∀ c, mb ((sN lg m sw 0) ||| (emp (bN K R C) (sN lg m sw 0) (sN lg m sw 1))) c = true → c < bN K R C := fun c hc => by
        rw [mb_or, Bool.or_eq_true] at hc
        rcases hc with z | z
        · exact sN_N w (by decide) z
        · exact ((emp_p w (p := 0) (by decide) c).1 z).1
      refine far_never v cells (fun c z1 z2 => emp_own w (p := 0) (by decide) c z1 z2) (no_join0 v hx (s1 := (sN lg m sw 1)) (fun c hc => sN_N w (by decide) hc) (fun c hc => ?_) cells k3)
      rw [mb_or, emp_fit v hc]
      cases z0 : mb (sN lg m sw 0) c with
      | true => rw [show mb (sN lg m sw 1) c = false from sN_disj w (p := 0) (by decide) c z0]; rfl
      | false => cases mb (sN lg m sw 1) c <;> rfl
    · obtain ⟨f, hf⟩ : ∃ f, gn (emp (bN K R C) (sN lg m sw 0) (sN lg m sw 1)) = f + 1 := by
        rcases Nat.eq_zero_or_pos (gn (emp (bN K R C) (sN lg m sw 0) (sN lg m sw 1))) with z | z
        · exact absurd k2 (full_joins v hx (fun c hc => sN_N w (by decide) hc) (fun c hc => sN_N w (by decide) hc) (fun c hc => sN_disj w (p := 0) (by decide) c hc) z)
        · exact ⟨gn (emp (bN K R C) (sN lg m sw 0) (sN lg m sw 1)) - 1, by omega⟩
      have wb := winV_best v tm k2 hf
      have lb := last_bd (tu := m % 2) v k2 (by omega) hf
      have b2 : (bestV K R C (sN lg m sw 0) (sN lg m sw 1) (m % 2)) < 2 := bestV_lt tm
      rw [if_pos (show jnd K R C (sN lg m sw 0) (sN lg m sw 1) = (-1 : Int32) from k1)]
      have s178 : ∀ y : Int32, mm_run (mm_pr tb_L_plays) (178, [some (.ref 0), some (.ref 78), some (.int (i32 (gn (emp (bN K R C) (sN lg m sw 0) (sN lg m sw 1))))), some (.int (i32 (bestV K R C (sN lg m sw 0) (sN lg m sw 1) (m % 2)))), some (.int (si (lastV K R C (sN lg m sw 0) (sN lg m sw 1) (m % 2)))), some (.long (winV K R C (sN lg m sw 0) (sN lg m sw 1) (m % 2))), none, some (.int (i32 (m % 2))), none, none, none, none, none, none], [.int y, .int y], (79, e3, mm_R0, I3, J3, A3, B3)) = mm_run (mm_pr tb_L_plays) (198, [some (.ref 0), some (.ref 78), some (.int (i32 (gn (emp (bN K R C) (sN lg m sw 0) (sN lg m sw 1))))), some (.int (i32 (bestV K R C (sN lg m sw 0) (sN lg m sw 1) (m % 2)))), some (.int (si (lastV K R C (sN lg m sw 0) (sN lg m sw 1) (m % 2)))), some (.long (winV K R C (sN lg m sw 0) (sN lg m sw 1) (m % 2))), none, some (.int (i32 (m % 2))), none, none, none, none, none, none], [.int 1], (79, e3, mm_R0, I3, J3, A3, B3)) := by
        intro y
        rw [sg_L_plays_178, if_pos rfl, show (1 : Int32) = si 1 from rfl, if_neg (fun z => by have := (si_ltr (by omega) (by omega) (by omega) (by omega)).1 z; omega), si_i32, if_neg (fun z => by have := (si_ltr (by omega) (by omega) (by omega) (by omega)).1 z; omega)]
      have go : ∃ e' I' J' A' B', mm_run (mm_pr tb_L_plays) (198, [some (.ref 0), some (.ref 78), some (.int (i32 (gn (emp (bN K R C) (sN lg m sw 0) (sN lg m sw 1))))), some (.int (i32 (bestV K R C (sN lg m sw 0) (sN lg m sw 1) (m % 2)))), some (.int (si (lastV K R C (sN lg m sw 0) (sN lg m sw 1) (m % 2)))), some (.long (winV K R C (sN lg m sw 0) (sN lg m sw 1) (m % 2))), none, some (.int (i32 (m % 2))), none, none, none, none, none, none], [.int 1], (79, e3, mm_R0, I3, J3, A3, B3)) = some (.inl (some (.int (i32 1))), (79, e', mm_R0, I', J', A', B')) ∧ RX c I' J' A' B' ∧ e' ≤ e + 230 := by
        rw [sg_L_plays_198, t4', mm_aft_v, sg_L_plays_205]
        by_cases hw : wnr K R C lg m sw lo = (-1 : Int32)
        · rw [if_pos hw]
          obtain ⟨l0, _⟩ := wnr_lo hl hw
          have rc0 : rc = false := by
            cases z : rc with
            | false => rfl
            | true => exact absurd hw (hb.2.2.2.2.2.2.2.1 z)
          subst l0
          subst rc0
          have none0 : ∃ e' I' J' A' B', mm_run (mm_pr tb_L_plays) (233, [some (.ref 0), some (.ref 78), some (.int (i32 (gn (emp (bN K R C) (sN lg m sw 0) (sN lg m sw 1))))), some (.int (i32 (bestV K R C (sN lg m sw 0) (sN lg m sw 1) (m % 2)))), some (.int (si (lastV K R C (sN lg m sw 0) (sN lg m sw 1) (m % 2)))), some (.long (winV K R C (sN lg m sw 0) (sN lg m sw 1) (m % 2))), none, some (.int (i32 (m % 2))), some (.int (1 : Int32)), none, none, none, none, none], [.int 0], (79, e3, mm_R0, I3, J3, A3, B3)) = some (.inl (some (.int (i32 1))), (79, e', mm_R0, I', J', A', B')) ∧ RX c I' J' A' B' ∧ e' ≤ e + 230 := by
            refine ⟨e3, I3, J3, A3, B3, ?_, RWd.rx _ _ _ _ h3, by omega⟩
            rw [sg_L_plays_233, show (0 : Int32) = i32 0 from rfl]
            refine Eq.trans (play_none (bN K R C) 0 e3 I3 J3 A3 B3 (100 : Int32) (i32 0) none (by omega) h3) ?_
            rw [sg_L_plays_470, if_neg (show ¬ (1 : Int32) = 0 by decide), if_pos rfl, sg_L_plays_498, sg_L_plays_503, if_pos (Or.inr rfl)]
            rfl
          by_cases g8 : i32 (gn (emp (bN K R C) (sN lg m sw 0) (sN lg m sw 1))) < (8 : Int32)
          · have kc := qa_clock e3 I3 J3 A3 B3 h3.1 (p := m % 2) (v := 2) tm (by decide)
            rw [if_neg (by decide), if_neg (by decide)] at kc
            have kc' : f_X10_clock [.ref 0, .int (i32 (m % 2)), .int (2 : Int32)] (79, e3, mm_R0, I3, J3, A3, B3) = some (.inl (some (.int (i32 (us (m % 2))))), (79, e3, mm_R0, I3, J3, A3, B3)) := kc
            have g8' : gn (emp (bN K R C) (sN lg m sw 0) (sN lg m sw 1)) < 8 := (i32_lt (b := 8) (by omega) (by decide)).1 g8
            have ub := (hb.2.1.2.2 (m % 2) tm).2.2.1
            rw [if_pos g8, kc', mm_aft_v, sg_L_plays_225]
            by_cases u0 : i32 (us (m % 2)) = (0 : Int32)
            · have hus : us (m % 2) = 0 := (i32_eq (b := 0) (by omega) (by decide)).1 u0
              obtain ⟨e', I', J', A', B', o13', q1, q2, q3⟩ := play_all (c := c) (f := f) (by omega) hf k2 hw hus (bN K R C) 0 e3 I3 J3 A3 B3 none (by omega) h3
              refine ⟨e', I', J', A', B', ?_, RWd.rx _ _ _ _ q2, by omega⟩
              have z1 : si (fwV K R C (sN lg m sw 0) (sN lg m sw 1) (m % 2) f 0) = (100 : Int32) := rfl
              have z2 : si (moV K R C (sN lg m sw 0) (sN lg m sw 1) (m % 2) f 0) = (0 : Int32) := rfl
              have z3 : i32 0 = (0 : Int32) := rfl
              rw [z1, z2, z3] at q1
              rw [if_pos u0, sg_L_plays_233]
              refine Eq.trans q1 ?_
              have lf := last_fm v tm k2 hf
              rw [sg_L_plays_470, if_neg (show ¬ (1 : Int32) = 0 by decide), if_neg (show ¬ (1 : Int32) = 0 by decide)]
              have fin : mm_run (mm_pr tb_L_plays) (495, [some (.ref 0), some (.ref 78), some (.int (i32 (gn (emp (bN K R C) (sN lg m sw 0) (sN lg m sw 1))))), some (.int (i32 (bestV K R C (sN lg m sw 0) (sN lg m sw 1) (m % 2)))), some (.int (si (lastV K R C (sN lg m sw 0) (sN lg m sw 1) (m % 2)))), some (.long (winV K R C (sN lg m sw 0) (sN lg m sw 1) (m % 2))), none, some (.int (i32 (m % 2))), some (.int (1 : Int32)), some (.int (1 : Int32)), some (.int (si (fwV K R C (sN lg m sw 0) (sN lg m sw 1) (m % 2) f (bN K R C)))), some (.int (si (moV K R C (sN lg m sw 0) (sN lg m sw 1) (m % 2) f (bN K R C)))), some (.int (i32 (bN K R C))), o13'], [.int (si (lastV K R C (sN lg m sw 0) (sN lg m sw 1) (m % 2))), .int (si (lastV K R C (sN lg m sw 0) (sN lg m sw 1) (m % 2)))], (79, e', mm_R0, I', J', A', B')) = some (.inl (some (.int (i32 1))), (79, e', mm_R0, I', J', A', B')) := by
                rw [sg_L_plays_495, if_pos rfl, sg_L_plays_498, sg_L_plays_503, if_pos (Or.inr rfl)]
                rfl
              by_cases q : (bestV K R C (sN lg m sw 0) (sN lg m sw 1) (m % 2)) = m % 2
              · rw [if_pos (show i32 (bestV K R C (sN lg m sw 0) (sN lg m sw 1) (m % 2)) = i32 (m % 2) by rw [q])]
                rw [if_pos q] at lf
                rw [lf] at fin ⊢
                exact fin
              · rw [if_neg (show ¬ i32 (bestV K R C (sN lg m sw 0) (sN lg m sw 1) (m % 2)) = i32 (m % 2) from fun z => q ((i32_eq (by omega) (by omega)).1 z))]
                rw [if_neg q] at lf
                rw [lf] at fin ⊢
                exact fin
            · rw [if_neg u0, sg_L_plays_232]
              exact none0
          · rw [if_neg g8, sg_L_plays_232]
            exact none0
        · refine ⟨e3, I3, J3, A3, B3, ?_, RWd.rx _ _ _ _ h3, by omega⟩
          rw [if_neg hw, if_pos (Or.inr rfl)]
          rfl
      by_cases q : (bestV K R C (sN lg m sw 0) (sN lg m sw 1) (m % 2)) = m % 2
      · rw [if_neg (wb.2 q), sg_L_plays_167, if_pos (show i32 (bestV K R C (sN lg m sw 0) (sN lg m sw 1) (m % 2)) = i32 (m % 2) by rw [q])]
        rw [show i32 1 = (1 : Int32) from rfl, s178]
        exact go
      · have w0 : (winV K R C (sN lg m sw 0) (sN lg m sw 1) (m % 2)) = 0 := by
          by_cases z : (winV K R C (sN lg m sw 0) (sN lg m sw 1) (m % 2)) = 0
          · exact z
          · exact absurd (wb.1 z) q
        rw [if_pos w0, sg_L_plays_167, if_neg (show ¬ i32 (bestV K R C (sN lg m sw 0) (sN lg m sw 1) (m % 2)) = i32 (m % 2) from fun z => q ((i32_eq (by omega) (by omega)).1 z)), s178]
        exact go
  · rw [if_pos (show (9 : Int32) < i32 (gn (emp (bN K R C) (sN lg m sw 0) (sN lg m sw 1))) by rw [show (9 : Int32) = i32 9 from rfl, i32_lt (by decide) (by omega)]; omega)]
    have c1 := wx_best_3 e I J A B 0 0 0 0 (cC_best_no e I J A B h.1.1 g9)
    have c2 := wx_lasts_3 (e + 1) I J A B 0 0 0 0 (cC_lasts_no (e + 1) I J A B h.1.1 g9)
    have c3 := wx_wins_3 (e + 1 + 1) I J A B 0 0 0 (cC_wins_no (e + 1 + 1) I J A B h.1.1 g9)
    have c4 := wx_dead_3 (e + 1 + 1 + 1) I J A B 0 0 0 (cC_dead_no (e + 1 + 1 + 1) I J A B h.1.1 g9)
    refine ⟨e + 1 + 1 + 1 + 1, I, J, A, B, ?_, RWd.rx _ _ _ _ h, by omega⟩
    rw [c1, mm_aft_v, sg_L_plays_22, if_pos rfl, c2, mm_aft_v, sg_L_plays_37, if_pos rfl, c3, mm_aft_v, sg_L_plays_50, if_pos rfl, c4, mm_aft_v, sg_L_plays_65, if_pos rfl, sg_L_plays_77, if_pos (Or.inr rfl)]
end
