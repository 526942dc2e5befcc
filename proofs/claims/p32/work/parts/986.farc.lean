/-! how far it is, asked of the class -/
section
variable {K R C : Nat} (e : Nat) (I : Nat → Nat → Int32) (J : Nat → Nat → Int64) (B : Nat → Nat → Int64)
theorem CB.fr22 {A A' : Nat → Nat → Int32} (h : CB K R C I J A B) (f : ∀ i, i ≠ 22 → A' i = A i) : CB K R C I J A' B := h.fr rfl rfl (f 2 (by decide)) (f 3 (by decide)) (f 4 (by decide)) rfl rfl
theorem sp0_around (A : Nat → Nat → Int32) (h : CB K R C I J A B) {c : Nat} (hc : c < bN K R C) : f_X1_around [.ref 1, .int (i32 c)] (79, e, mm_R0, I, J, A, B) = some (.inl (some (.long (bNb K R C c))), (79, e, mm_R0, I, J, A, B)) := by
  have hN := bN_le h.v
  have := sp_around 72 mm_R0 e I J A B (c := c) (by omega)
  rw [mm_RB_0, h.nb c hc] at this
  exact this
theorem sp_note (A : Nat → Nat → Int32) (h : CB K R C I J A B) {st : Nat} (hst : st < 3) (w : Int64) (x : Int32) : ∃ A', f_X9_note [.ref 21, .int (i32 st), .long w, .int x] (79, e, mm_R0, I, J, A, B) = some (.inl none, (79, e, mm_R0, I, J, A', B)) ∧ (∀ c, c < bN K R C → A' 22 (st * 36 + c) = if mb w c = true then x else A 22 (st * 36 + c)) ∧ (∀ j, (j < st * 36 ∨ st * 36 + 36 ≤ j) → A' 22 j = A 22 j) ∧ (∀ i, i ≠ 22 → A' i = A i) := by
  have hN := bN_le h.v
  have hc := h.cells
  have L : ∀ (dd c : Nat) (A' : Nat → Nat → Int32) (o6 : Option Value), c + dd = bN K R C → (∀ d, d < bN K R C → A' 22 (st * 36 + d) = if mb w d = true ∧ d < c then x else A 22 (st * 36 + d)) → (∀ j, (j < st * 36 ∨ st * 36 + 36 ≤ j) → A' 22 j = A 22 j) → (∀ i, i ≠ 22 → A' i = A i) → ∃ A'', mm_run (mm_pr tb_X9_note) (3, [some (.ref 21), some (.int (i32 st)), some (.long w), none, some (.int x), some (.int (i32 c)), o6], [], (79, e, mm_R0, I, J, A', B)) = some (.inl none, (79, e, mm_R0, I, J, A'', B)) ∧ (∀ c, c < bN K R C → A'' 22 (st * 36 + c) = if mb w c = true then x else A 22 (st * 36 + c)) ∧ (∀ j, (j < st * 36 ∨ st * 36 + 36 ≤ j) → A'' 22 j = A 22 j) ∧ (∀ i, i ≠ 22 → A'' i = A i) := by
    intro dd
    induction dd with
    | zero =>
      intro c A' o6 hd h1 h2 h3
      refine ⟨A', ?_, fun d hd' => ?_, h2, h3⟩
      · rw [sg_X9_note_3, hc, if_neg (by rw [i32_lt (by omega) (by omega)]; omega)]
      · rw [h1 d hd']
        by_cases q : mb w d = true
        · rw [if_pos ⟨q, by omega⟩, if_pos q]
        · rw [if_neg (fun z => q z.1), if_neg q]
    | succ dd ih =>
      intro c A' o6 hd h1 h2 h3
      rw [sg_X9_note_3, hc, if_pos (by rw [i32_lt (by omega) (by omega)]; omega)]
      simp only [i32_l]
      rw [i32_mul, i32_add, sp_has _ _ (by omega), mm_aft_v, sg_X9_note_30]
      cases q : mb w c with
      | false =>
        rw [if_pos (show bi false = 0 from rfl), sg_X9_note_57]
        simp only [i32_l]
        rw [i32_add]
        refine ih (c + 1) A' _ (by omega) (fun d hd' => ?_) h2 h3
        rw [h1 d hd']
        by_cases y : d = c
        · subst y; rw [q, if_neg (by simp), if_neg (by simp)]
        · by_cases y2 : mb w d = true ∧ d < c
          · rw [if_pos y2, if_pos ⟨y2.1, by omega⟩]
          · rw [if_neg y2, if_neg (fun z => y2 ⟨z.1, by omega⟩)]
      | true =>
        rw [if_neg (show ¬ bi true = 0 by decide), if_neg (by rw [show (0 : Int32) = i32 0 from rfl, i32_lt (by omega) (by omega)]; omega), if_pos (by rw [show (108 : Int32) = i32 108 from rfl, i32_lt (by omega) (by omega)]; omega), if_pos ((i32_in (by omega)).2 (by omega)), i32_ix (by omega), sg_X9_note_57]
        simp only [i32_l]
        rw [i32_add]
        refine ih (c + 1) _ _ (by omega) (fun d hd' => ?_) (fun j hj => ?_) (fun i hi => ?_)
        · by_cases y : d = c
          · subst y; rw [mm_up_eq, if_pos ⟨q, by omega⟩]
          · rw [mm_up_ne2 _ _ _ _ _ _ (by omega), h1 d hd']
            by_cases y2 : mb w d = true ∧ d < c
            · rw [if_pos y2, if_pos ⟨y2.1, by omega⟩]
            · rw [if_neg y2, if_neg (fun z => y2 ⟨z.1, by omega⟩)]
        · rw [mm_up_ne2 _ _ _ _ _ _ (by omega)]; exact h2 j hj
        · rw [mm_up_row _ _ _ _ _ hi]; exact h3 i hi
  rw [en_X9_note, sg_X9_note_0]
  exact L (bN K R C) 0 A none (by omega) (fun d hd => by rw [if_neg (fun z => absurd z.2 (Nat.not_lt_zero _))]) (fun _ _ => rfl) (fun _ _ => rfl)
theorem sp_beside (A : Nat → Nat → Int32) (h : CB K R C I J A B) (w : Int64) : ∃ x, f_X9_beside [.ref 21, .long w] (79, e, mm_R0, I, J, A, B) = some (.inl (some (.long x)), (79, e, mm_R0, I, J, A, B)) ∧ ∀ d, mb x d = true ↔ ∃ c, c < bN K R C ∧ mb w c = true ∧ mb (bNb K R C c) d = true := by
  have hN := bN_le h.v
  have hc := h.cells
  have L : ∀ (dd c : Nat) (y : Int64), c + dd = bN K R C → (∀ d, mb y d = true ↔ ∃ c', c' < c ∧ mb w c' = true ∧ mb (bNb K R C c') d = true) → ∃ x, mm_run (mm_pr tb_X9_beside) (5, [some (.ref 21), some (.long w), none, some (.long y), none, some (.int (i32 c))], [], (79, e, mm_R0, I, J, A, B)) = some (.inl (some (.long x)), (79, e, mm_R0, I, J, A, B)) ∧ ∀ d, mb x d = true ↔ ∃ c, c < bN K R C ∧ mb w c = true ∧ mb (bNb K R C c) d = true := by
    intro dd
    induction dd with
    | zero =>
      intro c y hd hy
      have cn : c = bN K R C := by omega
      refine ⟨y, ?_, by rw [cn] at hy; exact hy⟩
      rw [sg_X9_beside_5, hc, if_neg (by rw [i32_lt (by omega) (by omega)]; omega)]
    | succ dd ih =>
      intro c y hd hy
      rw [sg_X9_beside_5, hc, if_pos (by rw [i32_lt (by omega) (by omega)]; omega), sp_has _ _ (by omega), mm_aft_v, sg_X9_beside_24]
      cases q : mb w c with
      | false =>
        rw [if_pos (show bi false = 0 from rfl), sg_X9_beside_40, or_zero64]
        simp only [i32_l]
        rw [i32_add]
        refine ih (c + 1) y (by omega) (fun d => ?_)
        rw [hy d]
        constructor
        · rintro ⟨c', a1, a2⟩; exact ⟨c', by omega, a2⟩
        · rintro ⟨c', a1, a2, a3⟩
          by_cases z : c' = c
          · subst z; rw [q] at a2; cases a2
          · exact ⟨c', by omega, a2, a3⟩
      | true =>
        rw [if_neg (show ¬ bi true = 0 by decide), sp0_around e I J B A h (by omega), mm_aft_v, sg_X9_beside_36, sg_X9_beside_40]
        simp only [i32_l]
        rw [i32_add]
        refine ih (c + 1) _ (by omega) (fun d => ?_)
        rw [mb_or, Bool.or_eq_true, hy d]
        constructor
        · rintro (⟨c', a1, a2⟩ | a)
          · exact ⟨c', by omega, a2⟩
          · exact ⟨c, by omega, q, a⟩
        · rintro ⟨c', a1, a2, a3⟩
          by_cases z : c' = c
          · subst z; exact Or.inr a3
          · exact Or.inl ⟨c', by omega, a2, a3⟩
  rw [en_X9_beside, sg_X9_beside_0]
  exact L (bN K R C) 0 0 (by omega) (fun d => by
    rw [mb_zero]
    exact ⟨fun z => Bool.noConfusion z, fun ⟨c, a, _⟩ => absurd a (Nat.not_lt_zero _)⟩)
abbrev RB (K R C : Nat) (a own fr : Int64) (k c : Nat) : Prop := RP (bN K R C) (bNb K R C) a own fr k c
def NtP (K R C : Nat) (a own fr : Int64) (n c v : Nat) : Prop := (v ≤ n ∧ RB K R C a own fr v c ∧ ∀ k, RB K R C a own fr k c → v ≤ k) ∨ (v = 1000 ∧ ∀ k, k ≤ n → ¬ RB K R C a own fr k c)
theorem sp_measure (A : Nat → Nat → Int32) (h : CB K R C I J A B) {st : Nat} (hst : st < 3) (a own fr : Int64) (hd : ∀ c, mb own c = true → mb fr c = true → False) (hfr : ∀ c, mb fr c = true → c < bN K R C) : ∃ A', f_X9_measure [.ref 21, .int (i32 st), .long a, .long own, .long fr] (79, e, mm_R0, I, J, A, B) = some (.inl none, (79, e, mm_R0, I, J, A', B)) ∧ (∀ c, c < bN K R C → ∃ v, A' 22 (st * 36 + c) = i32 v ∧ Ds (bN K R C) (bNb K R C) a own fr c v) ∧ (∀ j, (j < st * 36 ∨ st * 36 + 36 ≤ j) → A' 22 j = A 22 j) ∧ (∀ i, i ≠ 22 → A' i = A i) := by
  have hN := bN_le h.v
  have hn : bN K R C ≤ 64 := by omega
  have w0 : ∀ c, mb own c = true → wt own c = 0 := fun c hc => by unfold wt; rw [if_pos hc]
  have w1 : ∀ c, mb fr c = true → wt own c = 1 := fun c hc => by unfold wt; rw [if_neg (fun z => hd c z hc)]
  have r0 : ∀ c, mb (rcB K R C a own) c = true ↔ ∃ k, k ≤ 0 ∧ RB K R C a own fr k c := by
    intro c
    rw [show rcB K R C a own = rch (bN K R C) (bNb K R C) a own from rfl, mb_rch hn]
    constructor
    · intro q
      refine ⟨0, Nat.le_refl _, q.ind (P := fun c => RB K R C a own fr 0 c) (fun c c1 c2 c3 => ?_) (fun c d d1 _ p d2 d3 => ?_)⟩
      · have := RP.base (nb := bNb K R C) (fr := fr) c1 c2 (Or.inl c3)
        rw [w0 c c3] at this; exact this
      · have := p.step d1 d2 (Or.inl d3)
        rw [w0 d d3] at this; exact this
    · rintro ⟨k, k1, k2⟩
      have : ∀ k c, RB K R C a own fr k c → k = 0 → Conn (bN K R C) (bNb K R C) a own c := by
        intro k c q
        refine q.ind (Q := fun k c => k = 0 → Conn (bN K R C) (bNb K R C) a own c) (fun c c1 c2 c3 z => ?_) (fun n c d d1 _ p d2 d3 z => ?_)
        · rcases c3 with c3 | c3
          · exact Conn.base c1 c2 c3
          · rw [w1 c c3] at z; omega
        · rcases d3 with d3 | d3
          · exact (p (by omega)).step d1 d2 d3
          · have := w1 d d3; omega
      exact this k c k2 (by omega)
  obtain ⟨A1, n1, n2, n3, n4⟩ := sp_note e I J B A h hst (mbit (bN K R C) - 1) (i32 1000)
  have h1 := h.fr22 I J B n4
  obtain ⟨A2, m1, m2, m3, m4⟩ := sp_note e I J B A1 h1 hst (rcB K R C a own) (i32 0)
  have h2 := h1.fr22 I J B m4
  have hall := h.all
  have start : f_X9_measure [.ref 21, .int (i32 st), .long a, .long own, .long fr] (79, e, mm_R0, I, J, A, B) = mm_run (mm_pr tb_X9_measure) (38, [some (.ref 21), some (.int (i32 st)), some (.long a), none, some (.long own), none, some (.long fr), none, some (.long (rcB K R C a own)), none, some (.int (i32 1)), none, none, none, none], [], (79, e, mm_R0, I, J, A2, B)) := by
    rw [en_X9_measure, sg_X9_measure_0, sp0_reach e I J B A h, mm_aft_v, sg_X9_measure_10, hall]
    simp only [i32_l]
    rw [n1, mm_aft_n, sg_X9_measure_27]
    simp only [i32_l]
    rw [m1, mm_aft_n, sg_X9_measure_35]
    rfl
  have L : ∀ (dd n : Nat) (rd : Int64) (A3 : Nat → Nat → Int32) (o11 o12 o13 o14 : Option Value), n + dd = 36 → CB K R C I J A3 B → (∀ c, mb rd c = true ↔ ∃ k, k ≤ n ∧ RB K R C a own fr k c) → n ≤ cf (mb rd) (bN K R C) → (∀ c, c < bN K R C → ∃ v, A3 22 (st * 36 + c) = i32 v ∧ NtP K R C a own fr n c v) → (∀ j, (j < st * 36 ∨ st * 36 + 36 ≤ j) → A3 22 j = A 22 j) → (∀ i, i ≠ 22 → A3 i = A i) → ∃ A', mm_run (mm_pr tb_X9_measure) (38, [some (.ref 21), some (.int (i32 st)), some (.long a), none, some (.long own), none, some (.long fr), none, some (.long rd), none, some (.int (i32 (n + 1))), o11, o12, o13, o14], [], (79, e, mm_R0, I, J, A3, B)) = some (.inl none, (79, e, mm_R0, I, J, A', B)) ∧ (∀ c, c < bN K R C → ∃ v, A' 22 (st * 36 + c) = i32 v ∧ Ds (bN K R C) (bNb K R C) a own fr c v) ∧ (∀ j, (j < st * 36 ∨ st * 36 + 36 ≤ j) → A' 22 j = A 22 j) ∧ (∀ i, i ≠ 22 → A' i = A i) := by
    intro dd
    have fin : ∀ n, n ≤ 36 → ∀ A3 : Nat → Nat → Int32, (∀ c k, RB K R C a own fr k c → ∃ k', k' ≤ n ∧ RB K R C a own fr k' c) → (∀ c, c < bN K R C → ∃ v, A3 22 (st * 36 + c) = i32 v ∧ NtP K R C a own fr n c v) → (∀ c, c < bN K R C → ∃ v, A3 22 (st * 36 + c) = i32 v ∧ Ds (bN K R C) (bNb K R C) a own fr c v) := by
      intro n hn36 A3 hcl hv c hc
      obtain ⟨v, v1, v2⟩ := hv c hc
      refine ⟨v, v1, ?_⟩
      rcases v2 with ⟨q1, q2, q3⟩ | ⟨q1, q2⟩
      · exact Or.inl ⟨by omega, q2, q3⟩
      · refine Or.inr ⟨q1, fun k hk => ?_⟩
        obtain ⟨k', k1, k2⟩ := hcl c k hk
        exact q2 k' k1 k2
    induction dd with
    | zero =>
      intro n rd A3 o11 o12 o13 o14 hnd hb hr hcf hv h22 hA
      refine ⟨A3, ?_, fin n (by omega) A3 (fun c k hk => ?_) hv, h22, hA⟩
      · rw [sg_X9_measure_38, if_pos (by rw [show (36 : Int32) = i32 36 from rfl, i32_lt (by decide) (by omega)]; omega)]
      · have all : ∀ c, c < bN K R C → mb rd c = true := fun c hc => by
          cases q : mb rd c with
          | true => rfl
          | false => have := cf_lt (p := mb rd) hc q; omega
        exact (hr c).1 (all c hk.lt)
    | succ dd ih =>
      intro n rd A3 o11 o12 o13 o14 hnd hb hr hcf hv h22 hA
      obtain ⟨x, x1, x2⟩ := sp_beside e I J B A3 hb rd
      have rdN : ∀ c, mb rd c = true → c < bN K R C := fun c hc => by
        obtain ⟨k, _, k2⟩ := (hr c).1 hc
        exact k2.lt
      rw [sg_X9_measure_38, if_neg (by rw [show (36 : Int32) = i32 36 from rfl, i32_lt (by decide) (by omega)]; omega), x1, mm_aft_v, sg_X9_measure_52]
      have sm : ∀ d, d < 64 → (mb (((a ||| x) &&& fr) &&& (rd ^^^ (-1 : Int64))) d = true ↔ ((mb a d = true ∨ mb x d = true) ∧ mb fr d = true ∧ mb rd d = false)) := by
        intro d hd64
        rw [mb_and, mb_and, mb_or, mb_cpl _ _ hd64]
        cases mb a d <;> cases mb x d <;> cases mb fr d <;> cases mb rd d <;> simp
      generalize hS : ((a ||| x) &&& fr) &&& (rd ^^^ (-1 : Int64)) = stp at sm
      by_cases q : stp = 0
      · refine ⟨A3, ?_, fin n (by omega) A3 (fun c k hk => ?_) hv, h22, hA⟩
        · rw [if_pos q]
        · have clo : ∀ d, d < bN K R C → mb fr d = true → (mb a d = true ∨ mb x d = true) → mb rd d = true := by
            intro d d1 d2 d3
            cases y : mb rd d with
            | true => rfl
            | false =>
              have := (sm d (by omega)).2 ⟨d3, d2, y⟩
              rw [q, mb_zero] at this; cases this
          refine hk.ind (Q := fun _ c => ∃ k', k' ≤ n ∧ RB K R C a own fr k' c) (fun c c1 c2 c3 => ?_) (fun m c d d1 _ p d2 d3 => ?_)
          · rcases c3 with c3 | c3
            · refine ⟨wt own c, by rw [w0 c c3]; omega, RP.base c1 c2 (Or.inl c3)⟩
            · exact (hr c).1 (clo c c1 c3 (Or.inl c2))
          · rcases d3 with d3 | d3
            · obtain ⟨k', k1, k2⟩ := p
              have := k2.step d1 d2 (Or.inl d3)
              rw [w0 d d3] at this
              exact ⟨k', k1, this⟩
            · exact (hr d).1 (clo d d1 d3 (Or.inr ((x2 d).2 ⟨c, by obtain ⟨k', _, k2⟩ := p; exact k2.lt, (hr c).2 p, d2⟩)))
      · rw [if_neg q, sp0_reach e I J B A3 hb, mm_aft_v, sg_X9_measure_93]
        generalize hW : rcB K R C (rd ||| stp) ((own ||| rd) ||| stp) = wd
        have stN : ∀ d, mb stp d = true → d < bN K R C := fun d hd' => hfr d ((sm d (mb_lt hd')).1 hd').2.1
        have stR : ∀ d, mb stp d = true → RB K R C a own fr (n + 1) d ∨ ∃ k, k ≤ n + 1 ∧ RB K R C a own fr k d := by
          intro d hd'
          obtain ⟨s1, s2, s3⟩ := (sm d (mb_lt hd')).1 hd'
          right
          rcases s1 with s1 | s1
          · refine ⟨1, by omega, ?_⟩
            have := RP.base (nb := bNb K R C) (own := own) (stN d hd') s1 (Or.inr s2)
            rw [w1 d s2] at this; exact this
          · obtain ⟨c, c1, c2, c3⟩ := (x2 d).1 s1
            obtain ⟨k, k1, k2⟩ := (hr c).1 c2
            have := k2.step (stN d hd') c3 (Or.inr s2)
            rw [w1 d s2] at this
            exact ⟨k + 1, by omega, this⟩
        have hr' : ∀ c, mb wd c = true ↔ ∃ k, k ≤ n + 1 ∧ RB K R C a own fr k c := by
          intro c
          rw [← hW, show rcB K R C (rd ||| stp) ((own ||| rd) ||| stp) = rch (bN K R C) (bNb K R C) (rd ||| stp) ((own ||| rd) ||| stp) from rfl, mb_rch hn]
          constructor
          · intro y
            refine y.ind (P := fun c => ∃ k, k ≤ n + 1 ∧ RB K R C a own fr k c) (fun c c1 c2 c3 => ?_) (fun c d d1 _ p d2 d3 => ?_)
            · rw [mb_or, Bool.or_eq_true] at c2
              rcases c2 with c2 | c2
              · obtain ⟨k, k1, k2⟩ := (hr c).1 c2
                exact ⟨k, by omega, k2⟩
              · exact (stR c c2).elim (fun z => ⟨_, Nat.le_refl _, z⟩) (fun z => z)
            · rw [mb_or, mb_or, Bool.or_eq_true, Bool.or_eq_true] at d3
              rcases d3 with (d3 | d3) | d3
              · obtain ⟨k, k1, k2⟩ := p
                have := k2.step d1 d2 (Or.inl d3)
                rw [w0 d d3] at this
                exact ⟨k, k1, this⟩
              · obtain ⟨k, k1, k2⟩ := (hr d).1 d3
                exact ⟨k, by omega, k2⟩
              · exact (stR d d3).elim (fun z => ⟨_, Nat.le_refl _, z⟩) (fun z => z)
          · rintro ⟨k, k1, k2⟩
            have inW : ∀ c, mb rd c = true ∨ mb stp c = true → c < bN K R C → Conn (bN K R C) (bNb K R C) (rd ||| stp) ((own ||| rd) ||| stp) c := by
              intro c hc cN
              refine Conn.base cN ?_ ?_
              · rw [mb_or, Bool.or_eq_true]; exact hc
              · rw [mb_or, mb_or, Bool.or_eq_true, Bool.or_eq_true]
                exact hc.elim (fun z => Or.inl (Or.inr z)) (fun z => Or.inr z)
            have frees : ∀ d, d < bN K R C → mb fr d = true → (mb a d = true ∨ mb x d = true) → Conn (bN K R C) (bNb K R C) (rd ||| stp) ((own ||| rd) ||| stp) d := by
              intro d d1 d2 d3
              cases y : mb rd d with
              | true => exact inW d (Or.inl y) d1
              | false => exact inW d (Or.inr ((sm d (by omega)).2 ⟨d3, d2, y⟩)) d1
            refine (k2.ind (Q := fun k c => k ≤ n + 1 → Conn (bN K R C) (bNb K R C) (rd ||| stp) ((own ||| rd) ||| stp) c) (fun c c1 c2 c3 _ => ?_) (fun m c d d1 r p d2 d3 hm => ?_)) k1
            · rcases c3 with c3 | c3
              · refine inW c (Or.inl ((hr c).2 ⟨0, Nat.zero_le _, ?_⟩)) c1
                have := RP.base (nb := bNb K R C) (fr := fr) c1 c2 (Or.inl c3)
                rw [w0 c c3] at this; exact this
              · exact frees c c1 c3 (Or.inl c2)
            · rcases d3 with d3 | d3
              · refine (p (by omega)).step d1 d2 ?_
                rw [mb_or, mb_or, d3]; rfl
              · have wd1 := w1 d d3
                exact frees d d1 d3 (Or.inr ((x2 d).2 ⟨c, r.lt, (hr c).2 ⟨m, by omega, r⟩, d2⟩))
        have more : cf (mb rd) (bN K R C) < cf (mb wd) (bN K R C) := by
          have lm := mlo_mb q
          obtain ⟨s1, s2, s3⟩ := (sm _ (mb_lt lm)).1 lm
          refine cf_lt2 (stN _ lm) s3 ((hr' _).2 ((stR _ lm).elim (fun z => ⟨_, Nat.le_refl _, z⟩) (fun z => z))) (fun c hc => ?_)
          obtain ⟨k, k1, k2⟩ := (hr c).1 hc
          exact (hr' c).2 ⟨k, by omega, k2⟩
        obtain ⟨A4, y1, y2, y3, y4⟩ := sp_note e I J B A3 hb hst (wd &&& (rd ^^^ (-1 : Int64))) (i32 (n + 1))
        have hb4 := hb.fr22 I J B y4
        rw [y1, mm_aft_n, sg_X9_measure_111]
        simp only [i32_l]
        rw [i32_add]
        refine ih (n + 1) wd A4 _ _ _ _ (by omega) hb4 hr' (by omega) (fun c hc => ?_) (fun j hj => by rw [y3 j hj, h22 j hj]) (fun i hi => by rw [y4 i hi, hA i hi])
        obtain ⟨v, v1, v2⟩ := hv c hc
        rw [y2 c hc, mb_and, mb_cpl _ _ (by omega), v1]
        rcases v2 with ⟨q1, q2, q3⟩ | ⟨q1, q2⟩
        · have rc : mb rd c = true := (hr c).2 ⟨v, q1, q2⟩
          rw [rc, if_neg (by simp)]
          exact ⟨v, rfl, Or.inl ⟨by omega, q2, q3⟩⟩
        · have rc : mb rd c = false := bool_f (fun z => by
            obtain ⟨k, k1, k2⟩ := (hr c).1 z
            exact q2 k k1 k2)
          cases wc : mb wd c with
          | true =>
            rw [rc, if_pos (by decide)]
            obtain ⟨k, k1, k2⟩ := (hr' c).1 wc
            have kn : k = n + 1 := Decidable.byContradiction (fun z => q2 k (by omega) k2)
            subst kn
            refine ⟨n + 1, rfl, Or.inl ⟨Nat.le_refl _, k2, fun k' hk' => Decidable.byContradiction (fun z => q2 k' (by omega) hk')⟩⟩
          | false =>
            rw [rc, if_neg (by decide)]
            refine ⟨v, rfl, Or.inr ⟨q1, fun k k1 k2 => ?_⟩⟩
            rw [(hr' c).2 ⟨k, k1, k2⟩] at wc; cases wc
  obtain ⟨A', l1, l2, l3, l4⟩ := L 36 0 (rcB K R C a own) A2 none none none none (by omega) h2 r0 (Nat.zero_le _) (fun c hc => by
    rw [m2 c hc, n2 c hc, mb_all hN, decide_eq_true hc, if_pos rfl]
    by_cases q : mb (rcB K R C a own) c = true
    · rw [if_pos q]
      obtain ⟨k, k1, k2⟩ := (r0 c).1 q
      have : k = 0 := by omega
      subst this
      exact ⟨0, rfl, Or.inl ⟨Nat.le_refl _, k2, fun _ _ => Nat.zero_le _⟩⟩
    · rw [if_neg q]
      exact ⟨1000, rfl, Or.inr ⟨rfl, fun k k1 k2 => q ((r0 c).2 ⟨k, k1, k2⟩)⟩⟩) (fun j hj => by rw [m3 j hj, n3 j hj]) (fun i hi => by rw [m4 i hi, n4 i hi])
  exact ⟨A', by rw [start]; exact l1, l2, l3, l4⟩
end
