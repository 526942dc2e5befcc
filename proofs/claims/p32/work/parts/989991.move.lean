/-! move: both sides -/
theorem WG.put {K R C : Nat} {lg : Nat → Nat} {m : Nat} {sw : Bool} (w : WG K R C lg m sw) {c : Nat} (hc : mb (emp (bN K R C) (sN lg m sw 0) (sN lg m sw 1)) c = true) : WG K R C (lgp lg m c) (m + 1) sw ∧ m < 37 ∧ c < bN K R C := by
  have hN := bN_le w.1
  obtain ⟨c1, c2, c3⟩ := (emp_EH hN _ _ c).1 hc
  have kk := kf_s w.2.2.2
  have kl := kf_le sw m
  have ne : ∀ i, kf sw m ≤ i → i < m → lg i ≠ c := fun i h1 h2 h3 => by
    have := (mb_st01 (f := kf sw m) w.n36 c).2 ⟨i, h2, h1, h3⟩
    rw [Bool.or_eq_true] at this
    rcases this with z | z
    · rw [show mb (sN lg m sw 0) c = true from z] at c2; cases c2
    · rw [show mb (sN lg m sw 1) c = true from z] at c3; cases c3
  have cnt := gn_cnt w.1 w.2.1 w.2.2.1 kl.2
  have gp : 1 ≤ gn (emp (bN K R C) (stN lg (kf sw m) 0 m) (stN lg (kf sw m) 1 m)) := by
    obtain ⟨h1, _⟩ := gc_of (E := emp (bN K R C) (sN lg m sw 0) (sN lg m sw 1)) (c := c) (by omega) hc
    exact Nat.lt_of_le_of_lt (Nat.zero_le _) h1
  refine ⟨⟨w.1, fun i hi => ?_, fun i j h1 h2 h3 => ?_, fun z => by have := w.2.2.2 z; omega⟩, by omega, c1⟩
  · unfold lgp
    by_cases q : i = m
    · rw [if_pos q]; exact c1
    · rw [if_neg q]; exact w.2.1 i (by omega)
  · rw [kk] at h1
    unfold lgp
    rw [if_neg (show ¬ i = m by omega)]
    by_cases q : j = m
    · rw [if_pos q]; exact ne i h1 (by omega)
    · rw [if_neg q]; exact w.2.2.1 i j h1 h2 (by omega)
section
variable {K R C : Nat} {lg : Nat → Nat} {m : Nat} {sw : Bool} {ea : Nat} {tk : Bool} {se pe us : Nat → Nat} {lo : Nat} (e : Nat) (I : Nat → Nat → Int32) (J : Nat → Nat → Int64) (A : Nat → Nat → Int32) (B : Nat → Nat → Int64)
theorem cC_move_1 (h : CB K R C I J A B) {x : Int32} (hx : cellP (bN K R C) x = false) : f_X10_move [.ref 0, .int x] (79, e, mm_R0, I, J, A, B) = some (.inr 1, (79, e + 1, mm_R0, I, J, A, B)) := by
  rw [en_X10_move, sg_X10_move_0, sp_hasCell e I J A B h, mm_aft_v, hx, sg_X10_move_8, if_pos (show bi false = 0 from rfl)]
theorem move_start (h : CG K R C lg m sw I J A B) {c : Nat} (hc : c < bN K R C) : f_X10_move [.ref 0, .int (i32 c)] (79, e, mm_R0, I, J, A, B) = mm_run (mm_pr tb_X10_move) (32, [some (.ref 0), some (.int (i32 c))], [.int (bi (mb (emp (bN K R C) (sN lg m sw 0) (sN lg m sw 1)) c))], (79, e, mm_R0, I, J, A, B)) := by
  have hN := bN_le h.1.v
  rw [en_X10_move, sg_X10_move_0, sp_hasCell e I J A B h.1, mm_aft_v, cellP_i hN (by omega), decide_eq_true hc, sg_X10_move_8, if_neg (show ¬ bi true = 0 by decide), sp0_empty e I J A B h, mm_aft_v, sg_X10_move_28, sp_has _ _ (by omega), mm_aft_v]
theorem cC_move_2 (h : CG K R C lg m sw I J A B) {c : Nat} (hc : c < bN K R C) (he : mb (emp (bN K R C) (sN lg m sw 0) (sN lg m sw 1)) c = false) : f_X10_move [.ref 0, .int (i32 c)] (79, e, mm_R0, I, J, A, B) = some (.inr 2, (79, e + 1, mm_R0, I, J, A, B)) := by
  rw [move_start e I J A B h hc, he, sg_X10_move_32, if_pos (show bi false = 0 from rfl)]
theorem cC_move_3 (h : CG K R C lg m sw I J A B) (t : TC ea tk se pe us lo I A) (hl : lo ≤ 2) {c : Nat} (hc : c < bN K R C) (he : mb (emp (bN K R C) (sN lg m sw 0) (sN lg m sw 1)) c = true) (hw : ¬ wnr K R C lg m sw lo = iN) : f_X10_move [.ref 0, .int (i32 c)] (79, e, mm_R0, I, J, A, B) = some (.inr 3, (79, e + 1, mm_R0, I, J, A, B)) := by
  rw [move_start e I J A B h hc, he, sg_X10_move_32, if_neg (show ¬ bi true = 0 by decide), sp_winner e I J A B h t hl, mm_aft_v, sg_X10_move_49, if_neg (show ¬ wnr K R C lg m sw lo = (-1 : Int32) from hw)]
abbrev FV (I I' : Nat → Nat → Int32) (J J' : Nat → Nat → Int64) (A A' : Nat → Nat → Int32) : Prop := (∀ i, i ≠ 7 → I' i = I i) ∧ (∀ i, i ≠ 7 → J' i = J i) ∧ (∀ i, i ≠ 8 → i ≠ 33 → A' i = A i)
theorem CG.of {lg' : Nat → Nat} {m' : Nat} {sw' : Bool} {I' : Nat → Nat → Int32} {J' : Nat → Nat → Int64} {A' : Nat → Nat → Int32} (h : CG K R C lg m sw I J A B) (f : FV I I' J J' A A') (hp : PL lg' m' sw' I' A') (h4 : J' 7 4 = sN lg' m' sw' 0) (h5 : J' 7 5 = sN lg' m' sw' 1) (h6 : I' 7 6 = jnd K R C (sN lg' m' sw' 0) (sN lg' m' sw' 1)) : CG K R C lg' m' sw' I' J' A' B := by
  obtain ⟨f1, f2, f3⟩ := f
  exact ⟨h.1.fr (f1 1 (by decide)) (f2 1 (by decide)) (f3 2 (by decide) (by decide)) (f3 3 (by decide) (by decide)) (f3 4 (by decide) (by decide)) rfl rfl, hp, h4, h5, h6, BQ.fr I J A B h.2.2.2.2.2.1 (f1 1 (by decide)) (f1 9 (by decide)) (f1 10 (by decide)) (f2 1 (by decide)) (f2 9 (by decide)) (f3 2 (by decide) (by decide)) (f3 3 (by decide) (by decide)) (f3 4 (by decide) (by decide)) (f3 11 (by decide) (by decide)) (f3 12 (by decide) (by decide)) (f3 13 (by decide) (by decide)) (f3 14 (by decide) (by decide)) rfl rfl, by rw [f3 18 (by decide) (by decide)]; exact h.2.2.2.2.2.2⟩
theorem TC.give (t : TC ea tk se pe us lo I A) {p : Nat} {I' A' : Nat → Nat → Int32} (hI : I' 30 = I 30) (h31 : A' 31 = A 31) (h32 : A' 32 = A 32) (h33 : A' 33 = mm_up A 33 p (i32 0) 33) : TC ea tk se pe (upN us p 0) lo I' A' := by
  refine ⟨by rw [hI]; exact t.1, by rw [hI]; exact t.2.1, by rw [hI]; exact t.2.2.1, fun q hq => ?_⟩
  have g := t.2.2.2 q hq
  rw [h31, h32, h33]
  unfold upN
  by_cases y : q = p
  · subst y; rw [mm_up_eq, if_pos rfl]; exact ⟨g.1, g.2.1, rfl⟩
  · rw [mm_up_ne2 _ _ _ _ _ _ y, if_neg y]; exact g
theorem TB.give (h : TB ea tk se pe us lo) (p : Nat) : TB ea tk se pe (upN us p 0) lo := by
  refine ⟨h.1, h.2.1, fun q hq => ?_⟩
  have g := h.2.2 q hq
  unfold upN
  by_cases y : q = p
  · rw [if_pos y]; exact ⟨g.1, g.2.1, by omega, fun _ => by omega, fun z => by omega⟩
  · rw [if_neg y]; exact g
theorem cC_move (h : CG K R C lg m sw I J A B) (w : WG K R C lg m sw) (t : TC ea tk se pe us lo I A) (hl : lo ≤ 2) {c : Nat} (he : mb (emp (bN K R C) (sN lg m sw 0) (sN lg m sw 1)) c = true) (hw : wnr K R C lg m sw lo = iN) : ∃ I' J' A', f_X10_move [.ref 0, .int (i32 c)] (79, e, mm_R0, I, J, A, B) = some (.inl (some (.int (wnr K R C (lgp lg m c) (m + 1) sw lo))), (79, e, mm_R0, I', J', A', B)) ∧ CG K R C (lgp lg m c) (m + 1) sw I' J' A' B ∧ TC ea tk se pe (upN us (m % 2) 0) lo I' A' ∧ FV I I' J J' A A' := by
  obtain ⟨w1, w2, w3⟩ := w.put he
  obtain ⟨A1, hA1⟩ : ∃ A1, A1 = mm_up A 33 (m % 2) (i32 0) := ⟨_, rfl⟩
  have rA : ∀ i, i ≠ 33 → A1 i = A i := fun i hi => by rw [hA1, mm_up_row _ _ _ _ _ hi]
  have cb1 : CB K R C I J A1 B := h.1.fr rfl rfl (rA 2 (by decide)) (rA 3 (by decide)) (rA 4 (by decide)) rfl rfl
  have pl1 : PL lg m sw I A1 := ⟨h.2.1.1, h.2.1.2.1, h.2.1.2.2.1, by rw [rA 8 (by decide)]; exact h.2.1.2.2.2⟩
  have put := sp_put 70 mm_R0 e I J A1 B (c := c) cb1 pl1 w2
  rw [mm_RP_0] at put
  have plP := pl1.put (c := c) w2
  obtain ⟨I', hI'⟩ : ∃ I', I' = mm_up (mm_up I 7 2 (i32 (m + 1))) 7 6 (jnd K R C (stN (lgp lg m c) (kf sw (m + 1)) 0 (m + 1)) (stN (lgp lg m c) (kf sw (m + 1)) 1 (m + 1))) := ⟨_, rfl⟩
  obtain ⟨J', hJ'⟩ : ∃ J', J' = mm_up (mm_up J 7 4 (stN (lgp lg m c) (kf sw (m + 1)) 0 (m + 1))) 7 5 (stN (lgp lg m c) (kf sw (m + 1)) 1 (m + 1)) := ⟨_, rfl⟩
  obtain ⟨A', hA'⟩ : ∃ A', A' = mm_up A1 8 m (i32 c) := ⟨_, rfl⟩
  have put' : f_X6_put [.ref 7, .int (i32 c)] (79, e, mm_R0, I, J, A1, B) = some (.inl none, (79, e, mm_R0, I', J', A', B)) := by rw [hI', hJ', hA']; exact put
  have fv : FV I I' J J' A A' := ⟨fun i hi => by rw [hI', mm_up_row _ _ _ _ _ hi, mm_up_row _ _ _ _ _ hi], fun i hi => by rw [hJ', mm_up_row _ _ _ _ _ hi, mm_up_row _ _ _ _ _ hi], fun i h1 h2 => by rw [hA', mm_up_row _ _ _ _ _ h1, rA i h2]⟩
  have pl2 : PL (lgp lg m c) (m + 1) sw I' A' := by
    refine ⟨?_, ?_, plP.2.2.1, ?_⟩
    · rw [hI', mm_up_ne2 _ _ _ _ _ _ (by decide)]; exact plP.1
    · rw [hI', mm_up_ne2 _ _ _ _ _ _ (by decide)]; exact plP.2.1
    · rw [hA']; exact plP.2.2.2
  have cg := h.of I J A B fv pl2 (by rw [hJ', mm_up_ne2 _ _ _ _ _ _ (by decide), mm_up_eq]) (by rw [hJ', mm_up_eq]) (by rw [hI', mm_up_eq])
  have tc : TC ea tk se pe (upN us (m % 2) 0) lo I' A' := t.give I A (p := m % 2) (fv.1 30 (by decide)) (fv.2.2 31 (by decide) (by decide)) (fv.2.2 32 (by decide) (by decide)) (by rw [hA', mm_up_row _ _ _ _ _ (by decide), hA1])
  refine ⟨I', J', A', ?_, cg, tc, fv⟩
  rw [move_start e I J A B h w3, he, sg_X10_move_32, if_neg (show ¬ bi true = 0 by decide), sp_winner e I J A B h t hl, mm_aft_v, sg_X10_move_49, if_pos (show wnr K R C lg m sw lo = (-1 : Int32) from hw), sp0_mover e I J A B h, mm_aft_v, sg_X10_move_74, sp_giveBack e I J A B (by omega), mm_aft_n, sg_X10_move_77, ← hA1, put', mm_aft_n, sg_X10_move_85, sp_winner e I' J' A' B cg tc hl, mm_aft_v, sg_X10_move_89]
end
section
variable {K R C : Nat} {lg : Nat → Nat} {m : Nat} {sw : Bool} {ea : Nat} {tk : Bool} {se pe us : Nat → Nat} {lo : Nat} (k : Nat) (r : Nat → Nat → Value) (e : Nat) (I : Nat → Nat → Int32) (J : Nat → Nat → Int64) (A : Nat → Nat → Int32) (B : Nat → Nat → Int64)
end
