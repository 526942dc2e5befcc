/-! links, asked of the class: whether the ends are tied, whether they hold -/
def ce (K R C x : Nat) : Int64 := if x < 100 then mbit x else bSs K R C (x - 100)
def TT (K R C : Nat) (E own : Int64) (one oth a : Nat) : Prop := ¬ (rcB K R C (ce K R C one) (own ||| spr E a (gn E)) &&& ce K R C oth = 0)
def mti (K R C : Nat) (E own : Int64) (one oth : Nat) (A : Nat → Nat → Int32) : Prop := ∀ a, a < 512 → A 19 a = i32 0 ∨ A 19 a = (if pdec (TT K R C E own one oth a) = true then i32 2 else i32 1)
def mhd (K R C : Nat) (E own : Int64) (one oth : Nat) (A : Nat → Nat → Int32) : Prop := ∀ a b, a < 512 → b < 512 → a &&& b = 0 → A 20 (cd a b) = i32 0 ∨ A 20 (cd a b) = (if pdec (LH (TT K R C E own one oth) (gn E) a b) = true then i32 2 else i32 1)
abbrev okE (K R C x : Nat) : Prop := x < bN K R C ∨ (100 ≤ x ∧ x < 100 + bSd K)
abbrev BL (K R C : Nat) (E own : Int64) (one oth : Nat) (I : Nat → Nat → Int32) (J : Nat → Nat → Int64) (A : Nat → Nat → Int32) (B : Nat → Nat → Int64) : Prop := CB K R C I J A B ∧ GX E 16 17 I A ∧ (∀ a, a < 512 → A 18 a = i32 (ter a)) ∧ J 15 4 = own ∧ I 15 5 = i32 one ∧ I 15 6 = i32 oth ∧ okE K R C one ∧ okE K R C oth ∧ mti K R C E own one oth A ∧ mhd K R C E own one oth A
abbrev F3 (A A' : Nat → Nat → Int32) : Prop := ∀ i, i ≠ 19 → i ≠ 20 → A' i = A i
theorem F3.tr {A A' A'' : Nat → Nat → Int32} (h1 : F3 A A') (h2 : F3 A' A'') : F3 A A'' := fun i a b => by rw [h2 i a b, h1 i a b]
theorem BL.fr {K R C : Nat} {E own : Int64} {one oth : Nat} {I : Nat → Nat → Int32} {J : Nat → Nat → Int64} {A A' : Nat → Nat → Int32} {B : Nat → Nat → Int64} (h : BL K R C E own one oth I J A B) (hA : F3 A A') (m1 : mti K R C E own one oth A') (m2 : mhd K R C E own one oth A') : BL K R C E own one oth I J A' B := by
  obtain ⟨h1, h2, h3, h4, h5, h6, h7, h8, h9, h10⟩ := h
  refine ⟨h1.fr rfl rfl (hA 2 (by decide) (by decide)) (hA 3 (by decide) (by decide)) (hA 4 (by decide) (by decide)) rfl rfl, ⟨h2.1, h2.2.1, fun k hk => ?_⟩, fun a ha => ?_, h4, h5, h6, h7, h8, m1, m2⟩
  · rw [hA 17 (by decide) (by decide)]; exact h2.2.2 k hk
  · rw [hA 18 (by decide) (by decide)]; exact h3 a ha
theorem Conn.mono {n : Nat} {nb : Nat → Int64} {a w w' : Int64} (h : ∀ c, mb w c = true → mb w' c = true) {c : Nat} (q : Conn n nb a w c) : Conn n nb a w' c := q.ind (fun c c1 c2 c3 => Conn.base c1 c2 (h c c3)) (fun c d d1 _ p d2 d3 => p.step d1 d2 (h d d3))
theorem and_ne0 {x y : Int64} : ¬ (x &&& y = 0) ↔ ∃ c, mb x c = true ∧ mb y c = true := by
  constructor
  · intro h
    have := mlo_mb h
    rw [mb_and, Bool.and_eq_true] at this
    exact ⟨_, this.1, this.2⟩
  · rintro ⟨c, h1, h2⟩ z
    have : mb (x &&& y) c = true := by rw [mb_and, h1, h2]; rfl
    rw [z, mb_zero] at this; cases this
section
variable {K R C : Nat} {E own : Int64} {one oth : Nat}
theorem TT_mono (v : bV K R C = true) {a b : Nat} (h : ∀ c, mb (spr E a (gn E)) c = true → mb (spr E b (gn E)) c = true) : TT K R C E own one oth a → TT K R C E own one oth b := by
  intro q
  unfold TT at q ⊢
  rw [and_ne0] at q ⊢
  obtain ⟨c, h1, h2⟩ := q
  have hn : bN K R C ≤ 64 := by have := bN_le v; omega
  refine ⟨c, ?_, h2⟩
  unfold rcB at h1 ⊢
  rw [mb_rch hn] at h1 ⊢
  refine h1.mono (fun d hd => ?_)
  rw [mb_or, Bool.or_eq_true] at hd ⊢
  exact hd.elim (fun z => Or.inl z) (fun z => Or.inr (h d z))
theorem TT_ad (v : bV K R C = true) (m k : Nat) : TT K R C E own one oth m → TT K R C E own one oth (m ||| 2 ^ k) := TT_mono v (fun c hc => by
  rw [spr_mem] at hc ⊢
  refine ⟨hc.1, hc.2.1, ?_⟩
  rw [tb_ad, hc.2.2]; rfl)
theorem TT_hb (v : bV K R C = true) (m r : Nat) (_ : ∀ k, k < gn E → r.testBit k = false) : TT K R C E own one oth m → TT K R C E own one oth (m ||| r) := TT_mono v (fun c hc => by
  rw [spr_mem] at hc ⊢
  refine ⟨hc.1, hc.2.1, ?_⟩
  rw [Nat.testBit_or, hc.2.2]; rfl)
variable (e : Nat) (I : Nat → Nat → Int32) (J : Nat → Nat → Int64) (B : Nat → Nat → Int64)
theorem sp0_reach (A : Nat → Nat → Int32) (h : CB K R C I J A B) (a w : Int64) : f_X1_reach [.ref 1, .long a, .long w] (79, e, mm_R0, I, J, A, B) = some (.inl (some (.long (rcB K R C a w))), (79, e, mm_R0, I, J, A, B)) := by
  have := sp_reachB 72 mm_R0 e I J A B h a w
  rw [mm_RB_0] at this
  exact this
theorem sp0_side (A : Nat → Nat → Int32) (h : CB K R C I J A B) {s : Nat} (hs : s < 4) : f_X1_side [.ref 1, .int (i32 s)] (79, e, mm_R0, I, J, A, B) = some (.inl (some (.long (bSs K R C s))), (79, e, mm_R0, I, J, A, B)) := by
  have := sp_side 72 mm_R0 e I J A B hs
  rw [mm_RB_0, h.sd s hs] at this
  exact this
theorem sp_cellsOf (A : Nat → Nat → Int32) (h : CB K R C I J A B) {x : Nat} (hx : okE K R C x) : f_X4_cellsOf [.ref 15, .int (i32 x)] (79, e, mm_R0, I, J, A, B) = some (.inl (some (.long (ce K R C x))), (79, e, mm_R0, I, J, A, B)) := by
  have hN := bN_le h.v
  have hS := bSd_le (K := K)
  rw [en_X4_cellsOf, sg_X4_cellsOf_0]
  unfold ce
  rcases hx with q | ⟨q1, q2⟩
  · rw [if_pos (by rw [show (100 : Int32) = i32 100 from rfl, i32_lt (by omega) (by decide)]; omega), sg_X4_cellsOf_23, if_pos (by omega)]
    rfl
  · rw [if_neg (by rw [show (100 : Int32) = i32 100 from rfl, i32_lt (by omega) (by decide)]; omega), show (100 : Int32) = i32 100 from rfl, i32_sub q1, sp0_side e I J B A h (by omega), mm_aft_v, sg_X4_cellsOf_17, sg_X4_cellsOf_23, if_neg (by omega)]
theorem sp_ties (A : Nat → Nat → Int32) (h : BL K R C E own one oth I J A B) {a : Nat} (ha : a < 512) : ∃ A', f_X4_ties [.ref 15, .int (i32 a)] (79, e, mm_R0, I, J, A, B) = some (.inl (some (.int (bi (pdec (TT K R C E own one oth a))))), (79, e, mm_R0, I, J, A', B)) ∧ BL K R C E own one oth I J A' B ∧ F3 A A' := by
  have h' := h
  obtain ⟨hb, hG, hT, h4, h5, h6, h7, h8, m1, m2⟩ := h'
  have up : ∀ v : Int32, v = (if pdec (TT K R C E own one oth a) = true then i32 2 else i32 1) → BL K R C E own one oth I J (mm_up A 19 a v) B ∧ F3 A (mm_up A 19 a v) := by
    intro v hv
    have f1 : F3 A (mm_up A 19 a v) := fun i a1 _ => mm_up_row _ _ _ _ _ a1
    refine ⟨h.fr f1 (fun a' ha' => ?_) (fun x y hx hy hd => ?_), f1⟩
    · by_cases q : a' = a
      · subst q; rw [mm_up_eq]; exact Or.inr hv
      · rw [mm_up_ne2 _ _ _ _ _ _ q]; exact m1 a' ha'
    · rw [mm_up_row _ _ _ _ _ (by decide)]; exact m2 x y hx hy hd
  rw [en_X4_ties, sg_X4_ties_0]
  simp (disch := omega) only [i32_l, iN_l, i32_add, i32_mul, i32_r0, i32_r1, run_bi, run_bi', i32_sub, decide_eq_true_eq, bi_rt, bi_em, bi_0, bi_1, i32_lt, i32_eq, iN_ne, iN_lt, iN_nlt, i32_ix, i32_in,  mm_aft_v, mm_aft_n, mm_aft_x, if_pos, if_neg, ite_true, ite_false, if_true, if_false, not_false_eq_true, not_true_eq_false]
  by_cases z : A 19 a = i32 0
  · rw [if_pos z, sp_spread_16 e I J A B hG (by omega), mm_aft_v, sg_X4_ties_36, h4, h5, sp_cellsOf e I J B A hb h7, mm_aft_v, sg_X4_ties_50, sp0_reach e I J B A hb, mm_aft_v, sg_X4_ties_54, h6, sp_cellsOf e I J B A hb h8, mm_aft_v, sg_X4_ties_62]
    by_cases q : rcB K R C (ce K R C one) (own ||| spr E a (gn E)) &&& ce K R C oth = 0
    · have hp : pdec (TT K R C E own one oth a) = false := bool_f (fun y => (pdec_t.1 y) q)
      refine ⟨mm_up A 19 a (i32 1), ?_, (up _ (by rw [hp]; rfl)).1, (up _ (by rw [hp]; rfl)).2⟩
      rw [if_pos q, sg_X4_ties_73, hp]
      simp (disch := omega) only [i32_l, iN_l, i32_add, i32_mul, i32_r0, i32_r1, run_bi, run_bi', i32_sub, decide_eq_true_eq, bi_rt, bi_em, bi_0, bi_1, i32_lt, i32_eq, iN_ne, iN_lt, iN_nlt, i32_ix, i32_in,  mm_aft_v, mm_aft_n, mm_aft_x, if_pos, if_neg, ite_true, ite_false, if_true, if_false, not_false_eq_true, not_true_eq_false, sg_X4_ties_90, sg_X4_ties_92, sg_X4_ties_107, byte1, mm_up_eq]
      rfl
    · have hp : pdec (TT K R C E own one oth a) = true := pdec_t.2 q
      refine ⟨mm_up A 19 a (i32 2), ?_, (up _ (by rw [hp]; rfl)).1, (up _ (by rw [hp]; rfl)).2⟩
      rw [if_neg q, sg_X4_ties_73, hp]
      simp (disch := omega) only [i32_l, iN_l, i32_add, i32_mul, i32_r0, i32_r1, run_bi, run_bi', i32_sub, decide_eq_true_eq, bi_rt, bi_em, bi_0, bi_1, i32_lt, i32_eq, iN_ne, iN_lt, iN_nlt, i32_ix, i32_in,  mm_aft_v, mm_aft_n, mm_aft_x, if_pos, if_neg, ite_true, ite_false, if_true, if_false, not_false_eq_true, not_true_eq_false, sg_X4_ties_90, sg_X4_ties_92, sg_X4_ties_107, byte2, mm_up_eq]
      rfl
  · have w := (m1 a ha).resolve_left z
    refine ⟨A, ?_, h, fun _ _ _ => rfl⟩
    rw [if_neg z, sg_X4_ties_92]
    simp (disch := omega) only [i32_l, iN_l, i32_add, i32_mul, i32_r0, i32_r1, run_bi, run_bi', i32_sub, decide_eq_true_eq, bi_rt, bi_em, bi_0, bi_1, i32_lt, i32_eq, iN_ne, iN_lt, iN_nlt, i32_ix, i32_in,  mm_aft_v, mm_aft_n, mm_aft_x, if_pos, if_neg, ite_true, ite_false, if_true, if_false, not_false_eq_true, not_true_eq_false, w]
    cases hp : pdec (TT K R C E own one oth a) with
    | true => simp (disch := omega) only [i32_l, iN_l, i32_add, i32_mul, i32_r0, i32_r1, run_bi, run_bi', i32_sub, decide_eq_true_eq, bi_rt, bi_em, bi_0, bi_1, i32_lt, i32_eq, iN_ne, iN_lt, iN_nlt, i32_ix, i32_in,  mm_aft_v, mm_aft_n, mm_aft_x, if_pos, if_neg, ite_true, ite_false, if_true, if_false, not_false_eq_true, not_true_eq_false, sg_X4_ties_107]; rfl
    | false => simp (disch := omega) only [i32_l, iN_l, i32_add, i32_mul, i32_r0, i32_r1, run_bi, run_bi', i32_sub, decide_eq_true_eq, bi_rt, bi_em, bi_0, bi_1, i32_lt, i32_eq, iN_ne, iN_lt, iN_nlt, i32_ix, i32_in,  mm_aft_v, mm_aft_n, mm_aft_x, if_pos, if_neg, ite_true, ite_false, if_true, if_false, not_false_eq_true, not_true_eq_false, sg_X4_ties_107, Bool.false_eq_true]; rfl
def HCT (K R C : Nat) (E own : Int64) (one oth e : Nat) (I : Nat → Nat → Int32) (J : Nat → Nat → Int64) (B : Nat → Nat → Int64) (g : mm_F) (f : Nat) : Prop := ∀ (m r d : Nat) (A : Nat → Nat → Int32), m < 512 → r < 512 → m &&& r = 0 → pop (gn E) r ≤ f → d + pop (gn E) r ≤ 9 → BL K R C E own one oth I J A B → ∃ A', g [.ref 15, .int (i32 m), .int (i32 r), .int (i32 d)] (79, e, mm_R0, I, J, A, B) = some (.inl (some (.int (bi (pdec (LH (TT K R C E own one oth) (gn E) m r))))), (79, e, mm_R0, I, J, A', B)) ∧ BL K R C E own one oth I J A' B ∧ F3 A A'
theorem ndf_le512 {r b : Nat} (h : r < 512) : ndf r b < 512 := ndf_lt (n := 9) h
theorem and0_rm {m r k : Nat} (h : m &&& r = 0) : m &&& ndf r (2 ^ k) = 0 := and0_of (fun i => by
  have b := and0_bit h i
  rw [tb_rm]
  cases q : m.testBit i <;> cases q2 : r.testBit i <;> simp [q, q2] at b ⊢)
theorem and0_mv {m r k : Nat} (h : m &&& r = 0) : (m ||| 2 ^ k) &&& ndf r (2 ^ k) = 0 := and0_of (fun i => by
  have b := and0_bit h i
  rw [tb_rm, tb_ad]
  by_cases e : k = i
  · subst e; rw [decide_eq_true rfl]; simp
  · rw [decide_eq_false e]
    cases q : m.testBit i <;> cases q2 : r.testBit i <;> simp [q, q2] at b ⊢)
theorem sp_hasAnswer {g : mm_F} {f : Nat} (hg : HCT K R C E own one oth e I J B g f) (A : Nat → Nat → Int32) (h : BL K R C E own one oth I J A B) {m r d : Nat} (hm : m < 512) (hr : r < 512) (hd : m &&& r = 0) (hf : pop (gn E) r ≤ f + 1) (hde : d + pop (gn E) r ≤ 9) : ∃ A', f_X4_hasAnswer g [.ref 15, .int (i32 m), .int (i32 r), .int (i32 d)] (79, e, mm_R0, I, J, A, B) = some (.inl (some (.int (bi (pdec (∃ j, j < gn E ∧ r.testBit j = true ∧ LH (TT K R C E own one oth) (gn E) (m ||| 2 ^ j) (ndf r (2 ^ j))))))), (79, e, mm_R0, I, J, A', B)) ∧ BL K R C E own one oth I J A' B ∧ F3 A A' := by
  have k9 : gn E ≤ 9 := h.2.1.1
  have L : ∀ (dd k : Nat) (A : Nat → Nat → Int32) (o5 : Option Value), k + dd = gn E → BL K R C E own one oth I J A B → (∀ j, j < k → r.testBit j = true → ¬ LH (TT K R C E own one oth) (gn E) (m ||| 2 ^ j) (ndf r (2 ^ j))) → ∃ A', mm_run (mm_pr (tb_X4_hasAnswer g)) (3, [some (.ref 15), some (.int (i32 m)), some (.int (i32 r)), some (.int (i32 d)), some (.int (i32 k)), o5], [], (79, e, mm_R0, I, J, A, B)) = some (.inl (some (.int (bi (pdec (∃ j, j < gn E ∧ r.testBit j = true ∧ LH (TT K R C E own one oth) (gn E) (m ||| 2 ^ j) (ndf r (2 ^ j))))))), (79, e, mm_R0, I, J, A', B)) ∧ BL K R C E own one oth I J A' B ∧ F3 A A' := by
    intro dd
    induction dd with
    | zero =>
      intro k A o5 hk hb hj
      have hc : I 16 2 = i32 (gn E) := hb.2.1.2.1
      refine ⟨A, ?_, hb, fun _ _ _ => rfl⟩
      rw [sg_X4_hasAnswer_3, hc, if_neg (by rw [i32_lt (by omega) (by omega)]; omega)]
      have hp : pdec (∃ j, j < gn E ∧ r.testBit j = true ∧ LH (TT K R C E own one oth) (gn E) (m ||| 2 ^ j) (ndf r (2 ^ j))) = false := bool_f (fun y => by
        obtain ⟨j, j1, j2, j3⟩ := pdec_t.1 y
        exact hj j (by omega) j2 j3)
      rw [hp]; rfl
    | succ dd ih =>
      intro k A o5 hk hb hj
      have hc : I 16 2 = i32 (gn E) := hb.2.1.2.1
      rw [sg_X4_hasAnswer_3, hc, if_pos (by rw [i32_lt (by omega) (by omega)]; omega)]
      simp only [i32_l]
      rw [i32_shl (by omega), sp_has _ _ (by omega), mm_aft_v, mb_i32 (by omega), sg_X4_hasAnswer_28]
      cases hp : r.testBit k with
      | false =>
        obtain ⟨A', a1, a2⟩ := ih (k + 1) A (some (.int (i32 (2 ^ k)))) (by omega) hb (fun j h1 h2 => by
          by_cases q : j = k
          · subst q; rw [hp] at h2; cases h2
          · exact hj j (by omega) h2)
        refine ⟨A', ?_, a2⟩
        rw [← a1, if_pos (show bi false = 0 from rfl), sg_X4_hasAnswer_53]
        simp only [i32_l, i32_add]
      | true =>
        have p := pop_rm (n := gn E) (show k < gn E by omega) hp
        obtain ⟨A1, b1, b2, b3⟩ := hg (m ||| 2 ^ k) (ndf r (2 ^ k)) (d + 1) A (or_lt512 hm (by omega)) (ndf_le512 hr) (and0_mv hd) (by omega) (by omega) hb
        rw [if_neg (show ¬ bi true = 0 by decide)]
        rw [show i32 r &&& (i32 (2 ^ k) ^^^ (-1 : Int32)) = i32 (ndf r (2 ^ k)) from i32_ndf _ _]
        simp only [i32_l]
        rw [i32_or, i32_add, b1, mm_aft_v, sg_X4_hasAnswer_48]
        cases hq : pdec (LH (TT K R C E own one oth) (gn E) (m ||| 2 ^ k) (ndf r (2 ^ k))) with
        | true =>
          refine ⟨A1, ?_, b2, b3⟩
          rw [if_neg (show ¬ bi true = 0 by decide), show pdec (∃ j, j < gn E ∧ r.testBit j = true ∧ LH (TT K R C E own one oth) (gn E) (m ||| 2 ^ j) (ndf r (2 ^ j))) = true from pdec_t.2 ⟨k, by omega, hp, pdec_t.1 hq⟩]
          rfl
        | false =>
          obtain ⟨A', a1, a2, a3⟩ := ih (k + 1) A1 (some (.int (i32 (2 ^ k)))) (by omega) b2 (fun j h1 h2 h3 => by
            by_cases q : j = k
            · subst q; rw [pdec_t.2 h3] at hq; cases hq
            · exact hj j (by omega) h2 h3)
          refine ⟨A', ?_, a2, b3.tr a3⟩
          rw [← a1, if_pos (show bi false = 0 from rfl), sg_X4_hasAnswer_53]
          simp only [i32_l, i32_add]
  show ∃ A', (mm_do (mm_pr (tb_X4_hasAnswer g)) 6) _ _ = _ ∧ _
  rw [en_X4_hasAnswer, sg_X4_hasAnswer_0]
  exact L (gn E) 0 A none (by omega) h (fun j hj => absurd hj (Nat.not_lt_zero _))
theorem sp_hasAnswers {g : mm_F} {f : Nat} (hg : HCT K R C E own one oth e I J B g f) (A : Nat → Nat → Int32) (h : BL K R C E own one oth I J A B) {m r d : Nat} (hm : m < 512) (hr : r < 512) (hd : m &&& r = 0) (hf : pop (gn E) r ≤ f + 1) (hde : d + pop (gn E) r ≤ 9) : ∃ A', f_X4_hasAnswers g [.ref 15, .int (i32 m), .int (i32 r), .int (i32 d)] (79, e, mm_R0, I, J, A, B) = some (.inl (some (.int (bi (pdec (∀ k, k < gn E → r.testBit k = true → ∃ j, j < gn E ∧ (ndf r (2 ^ k)).testBit j = true ∧ LH (TT K R C E own one oth) (gn E) (m ||| 2 ^ j) (ndf (ndf r (2 ^ k)) (2 ^ j))))))), (79, e, mm_R0, I, J, A', B)) ∧ BL K R C E own one oth I J A' B ∧ F3 A A' := by
  have k9 : gn E ≤ 9 := h.2.1.1
  have L : ∀ (dd k : Nat) (A : Nat → Nat → Int32), k + dd = gn E → BL K R C E own one oth I J A B → (∀ i, i < k → r.testBit i = true → ∃ j, j < gn E ∧ (ndf r (2 ^ i)).testBit j = true ∧ LH (TT K R C E own one oth) (gn E) (m ||| 2 ^ j) (ndf (ndf r (2 ^ i)) (2 ^ j))) → ∃ A', mm_run (mm_pr (tb_X4_hasAnswers g)) (3, [some (.ref 15), some (.int (i32 m)), some (.int (i32 r)), some (.int (i32 d)), some (.int (i32 k))], [], (79, e, mm_R0, I, J, A, B)) = some (.inl (some (.int (bi (pdec (∀ k, k < gn E → r.testBit k = true → ∃ j, j < gn E ∧ (ndf r (2 ^ k)).testBit j = true ∧ LH (TT K R C E own one oth) (gn E) (m ||| 2 ^ j) (ndf (ndf r (2 ^ k)) (2 ^ j))))))), (79, e, mm_R0, I, J, A', B)) ∧ BL K R C E own one oth I J A' B ∧ F3 A A' := by
    intro dd
    induction dd with
    | zero =>
      intro k A hk hb hj
      have hc : I 16 2 = i32 (gn E) := hb.2.1.2.1
      refine ⟨A, ?_, hb, fun _ _ _ => rfl⟩
      rw [sg_X4_hasAnswers_3, hc, if_neg (by rw [i32_lt (by omega) (by omega)]; omega), show pdec (∀ k, k < gn E → r.testBit k = true → ∃ j, j < gn E ∧ (ndf r (2 ^ k)).testBit j = true ∧ LH (TT K R C E own one oth) (gn E) (m ||| 2 ^ j) (ndf (ndf r (2 ^ k)) (2 ^ j))) = true from pdec_t.2 (fun i h1 h2 => hj i (by omega) h2)]
      rfl
    | succ dd ih =>
      intro k A hk hb hj
      have hc : I 16 2 = i32 (gn E) := hb.2.1.2.1
      rw [sg_X4_hasAnswers_3, hc, if_pos (by rw [i32_lt (by omega) (by omega)]; omega), sp_has _ _ (by omega), mm_aft_v, mb_i32 (by omega), sg_X4_hasAnswers_22]
      cases hp : r.testBit k with
      | false =>
        obtain ⟨A', a1, a2⟩ := ih (k + 1) A (by omega) hb (fun j h1 h2 => by
          by_cases q : j = k
          · subst q; rw [hp] at h2; cases h2
          · exact hj j (by omega) h2)
        refine ⟨A', ?_, a2⟩
        rw [← a1, if_pos (show bi false = 0 from rfl), sg_X4_hasAnswers_44]
        simp only [i32_l, i32_add]
      | true =>
        have p := pop_rm (n := gn E) (show k < gn E by omega) hp
        obtain ⟨A1, b1, b2, b3⟩ := sp_hasAnswer e I J B hg A hb (m := m) (r := ndf r (2 ^ k)) (d := d) hm (ndf_le512 hr) (and0_rm hd) (by omega) (by omega)
        rw [if_neg (show ¬ bi true = 0 by decide)]
        simp only [i32_l]
        rw [i32_shl (by omega), show i32 r &&& (i32 (2 ^ k) ^^^ (-(i32 1))) = i32 (ndf r (2 ^ k)) from i32_ndf _ _, b1, mm_aft_v, sg_X4_hasAnswers_39]
        cases hq : pdec (∃ j, j < gn E ∧ (ndf r (2 ^ k)).testBit j = true ∧ LH (TT K R C E own one oth) (gn E) (m ||| 2 ^ j) (ndf (ndf r (2 ^ k)) (2 ^ j))) with
        | false =>
          refine ⟨A1, ?_, b2, b3⟩
          have hz : pdec (∀ k, k < gn E → r.testBit k = true → ∃ j, j < gn E ∧ (ndf r (2 ^ k)).testBit j = true ∧ LH (TT K R C E own one oth) (gn E) (m ||| 2 ^ j) (ndf (ndf r (2 ^ k)) (2 ^ j))) = false := bool_f (fun y => by
            have := pdec_t.2 (pdec_t.1 y k (by omega) hp)
            rw [this] at hq; cases hq)
          rw [if_pos (show bi false = 0 from rfl), hz]
          rfl
        | true =>
          obtain ⟨A', a1, a2, a3⟩ := ih (k + 1) A1 (by omega) b2 (fun j h1 h2 => by
            by_cases q : j = k
            · subst q; exact pdec_t.1 hq
            · exact hj j (by omega) h2)
          refine ⟨A', ?_, a2, b3.tr a3⟩
          rw [← a1, if_neg (show ¬ bi true = 0 by decide), sg_X4_hasAnswers_44]
          simp only [i32_l, i32_add]
  show ∃ A', (mm_do (mm_pr (tb_X4_hasAnswers g)) 5) _ _ = _ ∧ _
  rw [en_X4_hasAnswers, sg_X4_hasAnswers_0]
  exact L (gn E) 0 A (by omega) h (fun j hj => absurd hj (Nat.not_lt_zero _))
theorem sp_holds_s {g : mm_F} {f : Nat} (hg : ∀ f', f = f' + 1 → HCT K R C E own one oth e I J B g f') : HCT K R C E own one oth e I J B (mm_do (mm_pr (tb_X4_holds g)) 5) f := by
  intro m r d A hm hr hd hf hde h
  have v := h.1.v
  have k9 : gn E ≤ 9 := h.2.1.1
  have mr9 : m ||| r < 512 := Nat.or_lt_two_pow (n := 9) hm hr
  have keyb : cd m r < 19683 := cd_lt hd
  have hTa := TT_ad (E := E) (own := own) (one := one) (oth := oth) v
  have hTb := TT_hb (E := E) (own := own) (one := one) (oth := oth) v
  obtain ⟨A1, a1, a2, a3⟩ := sp_ties e I J B A h hm
  rw [en_X4_holds, sg_X4_holds_0, a1, mm_aft_v, sg_X4_holds_5]
  cases ht : pdec (TT K R C E own one oth m) with
  | true =>
    refine ⟨A1, ?_, a2, a3⟩
    rw [if_neg (show ¬ bi true = 0 by decide), show pdec (LH (TT K R C E own one oth) (gn E) m r) = true from pdec_t.2 (L_tie hTa _ m r rfl (pdec_t.1 ht)).1]
    rfl
  | false =>
    have nt : ¬ TT K R C E own one oth m := fun z => by rw [pdec_t.2 z] at ht; cases ht
    rw [if_pos (show bi false = 0 from rfl), sp_pair_16 e I J A1 B a2.2.2.1 hm hr hd, mm_aft_v, sg_X4_holds_19]
    obtain ⟨A2, b1, b2, b3⟩ := sp_ties e I J B A1 a2 mr9
    simp (disch := omega) only [i32_l, iN_l, i32_add, i32_mul, i32_r0, i32_r1, run_bi, run_bi', i32_sub, decide_eq_true_eq, bi_rt, bi_em, bi_0, bi_1, i32_lt, i32_eq, iN_ne, iN_lt, iN_nlt, i32_ix, i32_in,  mm_aft_v, mm_aft_n, mm_aft_x, if_pos, if_neg, ite_true, ite_false, if_true, if_false, not_false_eq_true, not_true_eq_false]
    rw [i32_or, b1, mm_aft_v, sg_X4_holds_49]
    cases hq : pdec (TT K R C E own one oth (m ||| r)) with
    | false =>
      refine ⟨A2, ?_, b2, a3.tr b3⟩
      rw [if_pos (show bi false = 0 from rfl), sg_X4_holds_52]
      have hz : pdec (LH (TT K R C E own one oth) (gn E) m r) = false := bool_f (fun y => by
        have := pdec_t.2 (L_all hTa hTb _ m r rfl (Or.inl (pdec_t.1 y)))
        rw [this] at hq; cases hq)
      rw [hz]
      rfl
    | true =>
      have pr : 0 < pop (gn E) r := by
        cases hp : pop (gn E) r with
        | zero =>
          exfalso
          refine nt ?_
          have t := pdec_t.1 hq
          refine TT_mono v (fun c hc => ?_) t
          rw [spr_mem] at hc ⊢
          refine ⟨hc.1, hc.2.1, ?_⟩
          have gl := gc_of hc.1 hc.2.1
          have := hc.2.2
          rw [Nat.testBit_or, pop_0 hp gl.1, Bool.or_false] at this
          exact this
        | succ _ => omega
      obtain ⟨f', hf'⟩ : ∃ f', f = f' + 1 := ⟨f - 1, by omega⟩
      rw [if_neg (show ¬ bi true = 0 by decide)]
      simp (disch := omega) only [i32_l, iN_l, i32_add, i32_mul, i32_r0, i32_r1, run_bi, run_bi', i32_sub, decide_eq_true_eq, bi_rt, bi_em, bi_0, bi_1, i32_lt, i32_eq, iN_ne, iN_lt, iN_nlt, i32_ix, i32_in,  mm_aft_v, mm_aft_n, mm_aft_x, if_pos, if_neg, ite_true, ite_false, if_true, if_false, not_false_eq_true, not_true_eq_false]
      have fin : ∀ A3, BL K R C E own one oth I J A3 B → A3 20 (cd m r) = (if pdec (LH (TT K R C E own one oth) (gn E) m r) = true then i32 2 else i32 1) → mm_run (mm_pr (tb_X4_holds g)) (87, [some (.ref 15), some (.int (i32 m)), some (.int (i32 r)), some (.int (i32 d)), some (.int (i32 (cd m r)))], [], (79, e, mm_R0, I, J, A3, B)) = some (.inl (some (.int (bi (pdec (LH (TT K R C E own one oth) (gn E) m r))))), (79, e, mm_R0, I, J, A3, B)) := by
        intro A3 _ hw
        rw [sg_X4_holds_87]
        simp (disch := omega) only [i32_l, iN_l, i32_add, i32_mul, i32_r0, i32_r1, run_bi, run_bi', i32_sub, decide_eq_true_eq, bi_rt, bi_em, bi_0, bi_1, i32_lt, i32_eq, iN_ne, iN_lt, iN_nlt, i32_ix, i32_in,  mm_aft_v, mm_aft_n, mm_aft_x, if_pos, if_neg, ite_true, ite_false, if_true, if_false, not_false_eq_true, not_true_eq_false, hw]
        cases hp : pdec (LH (TT K R C E own one oth) (gn E) m r) with
        | true => simp (disch := omega) only [i32_l, iN_l, i32_add, i32_mul, i32_r0, i32_r1, run_bi, run_bi', i32_sub, decide_eq_true_eq, bi_rt, bi_em, bi_0, bi_1, i32_lt, i32_eq, iN_ne, iN_lt, iN_nlt, i32_ix, i32_in,  mm_aft_v, mm_aft_n, mm_aft_x, if_pos, if_neg, ite_true, ite_false, if_true, if_false, not_false_eq_true, not_true_eq_false, sg_X4_holds_103]; rfl
        | false => simp (disch := omega) only [i32_l, iN_l, i32_add, i32_mul, i32_r0, i32_r1, run_bi, run_bi', i32_sub, decide_eq_true_eq, bi_rt, bi_em, bi_0, bi_1, i32_lt, i32_eq, iN_ne, iN_lt, iN_nlt, i32_ix, i32_in,  mm_aft_v, mm_aft_n, mm_aft_x, if_pos, if_neg, ite_true, ite_false, if_true, if_false, not_false_eq_true, not_true_eq_false, sg_X4_holds_103, Bool.false_eq_true]; rfl
      by_cases z : A2 20 (cd m r) = i32 0
      · obtain ⟨A3, c1, c2, c3⟩ := sp_hasAnswers e I J B (hg f' hf') A2 b2 (m := m) (r := r) (d := d) hm hr hd (by omega) (by omega)
        have eqv : pdec (∀ k, k < gn E → r.testBit k = true → ∃ j, j < gn E ∧ (ndf r (2 ^ k)).testBit j = true ∧ LH (TT K R C E own one oth) (gn E) (m ||| 2 ^ j) (ndf (ndf r (2 ^ k)) (2 ^ j))) = pdec (LH (TT K R C E own one oth) (gn E) m r) := by
          rw [Bool.eq_iff_iff, pdec_t, pdec_t, LH_class hTa nt]
          exact ⟨fun y => ⟨pr, y⟩, fun y => y.2⟩
        rw [eqv] at c1
        have up : ∀ w : Int32, w = (if pdec (LH (TT K R C E own one oth) (gn E) m r) = true then i32 2 else i32 1) → BL K R C E own one oth I J (mm_up A3 20 (cd m r) w) B ∧ F3 A3 (mm_up A3 20 (cd m r) w) := by
          intro w hw
          have f1 : F3 A3 (mm_up A3 20 (cd m r) w) := fun i _ a2 => mm_up_row _ _ _ _ _ a2
          have q1 : mti K R C E own one oth A3 := c2.2.2.2.2.2.2.2.2.1
          have q2 : mhd K R C E own one oth A3 := c2.2.2.2.2.2.2.2.2.2
          refine ⟨c2.fr f1 (fun a ha => ?_) (fun x y hx hy hxy => ?_), f1⟩
          · rw [mm_up_row _ _ _ _ _ (by decide)]; exact q1 a ha
          · by_cases q : cd x y = cd m r
            · obtain ⟨y1, y2⟩ := cd_inj hx hy hm hr hxy hd q
              subst y1; subst y2
              rw [mm_up_eq]; exact Or.inr hw
            · rw [mm_up_ne2 _ _ _ _ _ _ q]; exact q2 x y hx hy hxy
        rw [if_pos z, c1, mm_aft_v, sg_X4_holds_77]
        cases hp : pdec (LH (TT K R C E own one oth) (gn E) m r) with
        | true =>
          obtain ⟨u1, u2⟩ := up (i32 2) (by rw [hp]; rfl)
          refine ⟨mm_up A3 20 (cd m r) (i32 2), ?_, u1, ((a3.tr b3).tr c3).tr u2⟩
          have fn := fin _ u1 (by rw [mm_up_eq, hp]; rfl)
          rw [hp] at fn
          rw [← fn]
          simp (disch := omega) only [i32_l, iN_l, i32_add, i32_mul, i32_r0, i32_r1, run_bi, run_bi', i32_sub, decide_eq_true_eq, bi_rt, bi_em, bi_0, bi_1, i32_lt, i32_eq, iN_ne, iN_lt, iN_nlt, i32_ix, i32_in,  mm_aft_v, mm_aft_n, mm_aft_x, if_pos, if_neg, ite_true, ite_false, if_true, if_false, not_false_eq_true, not_true_eq_false, sg_X4_holds_85, byte2]
        | false =>
          obtain ⟨u1, u2⟩ := up (i32 1) (by rw [hp]; rfl)
          refine ⟨mm_up A3 20 (cd m r) (i32 1), ?_, u1, ((a3.tr b3).tr c3).tr u2⟩
          have fn := fin _ u1 (by rw [mm_up_eq, hp]; rfl)
          rw [hp] at fn
          rw [← fn]
          simp (disch := omega) only [i32_l, iN_l, i32_add, i32_mul, i32_r0, i32_r1, run_bi, run_bi', i32_sub, decide_eq_true_eq, bi_rt, bi_em, bi_0, bi_1, i32_lt, i32_eq, iN_ne, iN_lt, iN_nlt, i32_ix, i32_in,  mm_aft_v, mm_aft_n, mm_aft_x, if_pos, if_neg, ite_true, ite_false, if_true, if_false, not_false_eq_true, not_true_eq_false, sg_X4_holds_85, byte1, Bool.false_eq_true]
      · rw [if_neg z]
        have q2 : mhd K R C E own one oth A2 := b2.2.2.2.2.2.2.2.2.2
        exact ⟨A2, fin A2 b2 ((q2 m r hm hr hd).resolve_left z), b2, a3.tr b3⟩
theorem sp_holds : ∀ f N, f < N → HCT K R C E own one oth e I J B (f_X4_holds N) f := by
  intro f
  induction f with
  | zero =>
    intro N hN
    obtain ⟨N', rfl⟩ : ∃ N', N = N' + 1 := ⟨N - 1, by omega⟩
    exact sp_holds_s e I J B (fun f' h => by omega)
  | succ f ih =>
    intro N hN
    obtain ⟨N', rfl⟩ : ∃ N', N = N' + 1 := ⟨N - 1, by omega⟩
    exact sp_holds_s e I J B (fun f' h => by
      have : f' = f := by omega
      subst this
      exact ih N' (by omega))
end
