/-! links: both ways round; the answer to a cell of a carrier -/
section
variable {K R C : Nat} {E own : Int64} {one oth : Nat}
theorem TT_half (v : bV K R C = true) {a : Nat} (h : TT K R C E own one oth a) : TT K R C E own oth one a := by
  have bl := bN_le v
  unfold TT at h ⊢
  rw [and_nz] at h ⊢
  obtain ⟨c, c1, c2⟩ := h
  unfold rcB at c1 ⊢
  have hc := (mb_rch (by omega) _ _ _ _).1 c1
  have st : ∃ z, z < bN K R C ∧ mb (ce K R C one) z = true ∧ Conn (bN K R C) (bNb K R C) (mbit z) (own ||| spr E a (gn E)) c := by
    refine hc.ind (P := fun c => ∃ z, z < bN K R C ∧ mb (ce K R C one) z = true ∧ Conn (bN K R C) (bNb K R C) (mbit z) (own ||| spr E a (gn E)) c) (fun x hx a1 a2 => ⟨x, hx, a1, Conn.base hx (by rw [mb_bit _ _ (by omega)]; exact decide_eq_true rfl) a2⟩) (fun x d hd _ ⟨z, z1, z2, z3⟩ q r => ⟨z, z1, z2, z3.step hd q r⟩)
  obtain ⟨z, z1, z2, z3⟩ := st
  have z4 := Conn.swp v z1 z3
  refine ⟨z, (mb_rch (by omega) _ _ _ _).2 (z4.ind (P := fun q => Conn (bN K R C) (bNb K R C) (ce K R C oth) (own ||| spr E a (gn E)) q) (fun q hq a1 a2 => ?_) (fun q d hd _ p r s => p.step hd r s)), z2⟩
  rw [mb_bit _ _ (by have := hc.lt; omega), decide_eq_true_eq] at a1
  subst a1
  exact Conn.base hq c2 a2
theorem TT_sym (v : bV K R C = true) : TT K R C E own one oth = TT K R C E own oth one := by
  funext a
  exact propext ⟨TT_half v, TT_half v⟩
/-- the carrier, as a number; -1 if there is none -/
noncomputable def carV (K R C : Nat) (E own : Int64) (one oth : Nat) : Int64 := @dite Int64 (∃ c, MinC (TT K R C E own one oth) (gn E) c) (Classical.propDecidable _) (fun h => spr E (Classical.choose h) (gn E)) (fun _ => -1)
theorem carV_t {c : Nat} (h : MinC (TT K R C E own one oth) (gn E) c) : carV K R C E own one oth = spr E c (gn E) := by
  have hx : ∃ c, MinC (TT K R C E own one oth) (gn E) c := ⟨c, h⟩
  unfold carV
  rw [dif_pos hx, MinC_u (Classical.choose_spec hx) h]
theorem carV_f (h : ¬ ∃ c, MinC (TT K R C E own one oth) (gn E) c) : carV K R C E own one oth = -1 := by
  unfold carV
  rw [dif_neg h]
theorem car_of {v : Int64} (h : CarP K R C E own one oth v) : v = carV K R C E own one oth := by
  rcases h with ⟨h1, h2⟩ | ⟨c, c1, c2⟩
  · rw [h1, carV_f (fun ⟨c, hc⟩ => h2 c hc.1 hc.2.1)]
  · rw [c2, carV_t c1]
theorem carV_sym (v : bV K R C = true) : carV K R C E own one oth = carV K R C E own oth one := by
  have e := TT_sym (E := E) (own := own) (one := one) (oth := oth) v
  by_cases h : ∃ c, MinC (TT K R C E own one oth) (gn E) c
  · obtain ⟨c, hc⟩ := h
    rw [carV_t hc, carV_t (by rw [← e]; exact hc)]
  · rw [carV_f h, carV_f (by rw [← e]; exact h)]
/-- each cell of the carrier has an answer in it -/
theorem anw_in {c cl : Nat} {x : Int32} (hm : MinC (TT K R C E own one oth) (gn E) c) (hc : mb (spr E c (gn E)) cl = true) (h : AnwP K R C E own one oth cl x) : ∃ j, x = i32 j ∧ mb (spr E c (gn E)) j = true ∧ j ≠ cl ∧ j < 36 := by
  rcases h with ⟨_, h2⟩ | ⟨c', c1, h⟩
  · exact absurd hm.2.1 (h2 c hm.1)
  · have e := MinC_u c1 hm
    subst e
    rcases h with ⟨_, h4⟩ | ⟨_, h4⟩
    · rw [hc] at h4; cases h4
    · obtain ⟨l1, l2, l3⟩ := spr_mem.1 hc
      have gl := gc_of l1 l2
      have back : ∀ k, k < gn E → (ndf c' (2 ^ cf (mb E) cl)).testBit k = true → mb (spr E c' (gn E)) (gc E k) = true ∧ gc E k ≠ cl ∧ gc E k < 36 := fun k k1 k2 => by
        rw [tb_rm, Bool.and_eq_true, Bool.not_eq_true', decide_eq_false_iff_not] at k2
        obtain ⟨g1, g2, g3⟩ := gc_spec k1
        exact ⟨spr_mem.2 ⟨g1, g2, by rw [g3]; exact k2.1⟩, fun z => k2.2 (by rw [← z, g3]), g1⟩
      rcases h4 with ⟨k, k1, k2, k3, k4, k5⟩ | ⟨k1, k2⟩
      · obtain ⟨b1, b2, b3⟩ := back k k1 k2
        exact ⟨gc E k, k5, b1, b2, b3⟩
      · exfalso
        have pr := pop_rm gl.1 l3
        have hl := (LH_s (T := TT K R C E own one oth) (m := 0) pr).1 c1.2.1 _ gl.1 l3
        rcases Nat.eq_zero_or_pos (pop (gn E) (ndf c' (2 ^ cf (mb E) cl))) with z | z
        · -- the ends are joined already: the carrier would be empty
          have t0 := (LG_0 z).1 hl
          have p0 : pop (gn E) 0 = 0 := by
            have : ∀ n, cf (0 : Nat).testBit n = 0 := fun n => cf_zero n (fun c => Nat.zero_testBit c)
            exact this _
          have l0 : LH (TT K R C E own one oth) (gn E) 0 0 := (LH_0 p0).2 t0
          have := c1.2.2 0 (Nat.pow_pos (by decide)) l0
          omega
        · obtain ⟨f, hf⟩ : ∃ f, pop (gn E) (ndf c' (2 ^ cf (mb E) cl)) = f + 1 := ⟨_, (Nat.succ_pred_eq_of_pos z).symm⟩
          obtain ⟨k, q1, q2, q3⟩ := (LG_s hf).1 hl
          rw [Nat.zero_or] at q3
          exact k2 k q1 q2 q3
theorem anw_out {c cl : Nat} {x : Int32} (hm : MinC (TT K R C E own one oth) (gn E) c) (hc : mb (spr E c (gn E)) cl = false) (h : AnwP K R C E own one oth cl x) : x = iN := by
  rcases h with ⟨h1, _⟩ | ⟨c', c1, h⟩
  · exact h1
  · have e := MinC_u c1 hm
    subst e
    rcases h with ⟨h3, _⟩ | ⟨h3, _⟩
    · exact h3
    · rw [hc] at h3; cases h3
theorem anw_no {cl : Nat} {x : Int32} (hm : ¬ ∃ c, MinC (TT K R C E own one oth) (gn E) c) (h : AnwP K R C E own one oth cl x) : x = iN := by
  rcases h with ⟨h1, _⟩ | ⟨c', c1, _⟩
  · exact h1
  · exact absurd ⟨c', c1⟩ hm
theorem spr_lt36 {c x : Nat} (h : mb (spr E c (gn E)) x = true) : x < 36 := (spr_mem.1 h).1
end
/-! the ladder -/
theorem sumR_upd (ra : Nat → Int) (k : Nat) (d : Int) : ∀ n, sumR (fun q => if q = k then ra q + d else ra q) n = sumR ra n + (if k < n then d else 0) := by
  intro n
  induction n with
  | zero => rfl
  | succ n ih =>
    show sumR _ n + (if n = k then ra n + d else ra n) = sumR ra n + ra n + _
    rw [ih]
    by_cases q : n = k
    · subst q
      rw [if_pos rfl, if_neg (Nat.lt_irrefl _), if_pos (by omega)]
      omega
    · rw [if_neg q]
      by_cases z : k < n
      · rw [if_pos z, if_pos (by omega)]; omega
      · rw [if_neg z, if_neg (by omega)]; omega
theorem sumR_congr {ra rb : Nat → Int} : ∀ n, (∀ p, p < n → ra p = rb p) → sumR ra n = sumR rb n := by
  intro n
  induction n with
  | zero => intro _; rfl
  | succ n ih => intro h; show sumR ra n + ra n = sumR rb n + rb n; rw [ih (fun p hp => h p (by omega)), h n (by omega)]
theorem RaI.rec {n : Nat} {ra : Nat → Int} (h : RaI n ra) {w l : Nat} (hw : w < n) (hl : l < n) (hne : w ≠ l) : RaI n (raV ra w l) := by
  have e : raV ra w l = fun q => if q = l then (fun q => if q = w then ra q + chg (ra w - ra l) else ra q) q + (- chg (ra w - ra l)) else (fun q => if q = w then ra q + chg (ra w - ra l) else ra q) q := by
    funext q
    show (if q = w then ra w + chg (ra w - ra l) else if q = l then ra l - chg (ra w - ra l) else ra q) = (if q = l then (if q = w then ra q + chg (ra w - ra l) else ra q) + - chg (ra w - ra l) else (if q = w then ra q + chg (ra w - ra l) else ra q))
    by_cases a : q = w
    · subst a
      rw [if_pos rfl, if_neg hne, if_pos rfl]
    · rw [if_neg a]
      by_cases b : q = l
      · subst b; rw [if_pos rfl, if_pos rfl, if_neg a]; omega
      · rw [if_neg b, if_neg b, if_neg a]
  unfold RaI at h ⊢
  rw [e, sumR_upd, sumR_upd, if_pos hw, if_pos hl, h]
  omega
theorem RaI.add {n : Nat} {ra : Nat → Int} (h : RaI n ra) : RaI (n + 1) (raN ra n) := by
  unfold RaI at h ⊢
  show sumR (raN ra n) n + raN ra n n = _
  rw [sumR_congr (rb := ra) n (fun p hp => by unfold raN; rw [if_neg (by omega)]), h]
  unfold raN
  rw [if_pos rfl]
  omega
theorem PlI.add {n : Nat} {pl : Nat → Nat} (h : PlI n pl) : PlI (n + 1) (upN pl n n) := by
  obtain ⟨h1, h2⟩ := h
  have u : ∀ p, p < n + 1 → upN pl n n p = if p = n then n else pl p := fun p _ => rfl
  refine ⟨fun p hp => ?_, fun p q hp hq e => ?_⟩
  · rw [u p hp]
    by_cases z : p = n
    · rw [if_pos z]; omega
    · rw [if_neg z]; have := h1 p (by omega); omega
  · rw [u p hp, u q hq] at e
    by_cases z : p = n
    · by_cases y : q = n
      · omega
      · rw [if_pos z, if_neg y] at e
        have := h1 q (by omega)
        omega
    · by_cases y : q = n
      · rw [if_neg z, if_pos y] at e
        have := h1 p (by omega)
        omega
      · rw [if_neg z, if_neg y] at e
        exact h2 p q (by omega) (by omega) e
theorem PlI.rec {n : Nat} {pl : Nat → Nat} (h : PlI n pl) {w l : Nat} (hw : w < n) (hl : l < n) : PlI n (plcV pl w l) := by
  obtain ⟨h1, h2⟩ := h
  have e : ∀ q, q < n → plcV pl w l q = if pl l < pl w then (if pl q = pl w then pl l else if pl l ≤ pl q ∧ pl q < pl w then pl q + 1 else pl q) else pl q := fun q hq => by
    unfold plcV
    by_cases z : q = w
    · subst z; rw [if_pos rfl, if_pos rfl]
    · rw [if_neg z, if_neg (show ¬ pl q = pl w from fun y => z (h2 q w hq hw y))]
  have bw := h1 w hw
  have bl := h1 l hl
  have cs : ∀ x : Nat, (x = pl w ∧ (if x = pl w then pl l else if pl l ≤ x ∧ x < pl w then x + 1 else x) = pl l) ∨ (x ≠ pl w ∧ pl l ≤ x ∧ x < pl w ∧ (if x = pl w then pl l else if pl l ≤ x ∧ x < pl w then x + 1 else x) = x + 1) ∨ (x ≠ pl w ∧ ¬ (pl l ≤ x ∧ x < pl w) ∧ (if x = pl w then pl l else if pl l ≤ x ∧ x < pl w then x + 1 else x) = x) := fun x => by
    by_cases a : x = pl w
    · exact Or.inl ⟨a, if_pos a⟩
    · rw [if_neg a]
      by_cases b : pl l ≤ x ∧ x < pl w
      · exact Or.inr (Or.inl ⟨a, b.1, b.2, if_pos b⟩)
      · exact Or.inr (Or.inr ⟨a, b, if_neg b⟩)
  by_cases lt : pl l < pl w
  · refine ⟨fun p hp => ?_, fun p q hp hq he => ?_⟩
    · have bp := h1 p hp
      rw [e p hp, if_pos lt]
      rcases cs (pl p) with ⟨a, b⟩ | ⟨a, b, c, d⟩ | ⟨a, b, c⟩ <;> omega
    · rw [e p hp, e q hq, if_pos lt, if_pos lt] at he
      refine h2 p q hp hq ?_
      rcases cs (pl p) with ⟨a, b⟩ | ⟨a, b, c, d⟩ | ⟨a, b, c⟩ <;> rcases cs (pl q) with ⟨a', b'⟩ | ⟨a', b', c', d'⟩ | ⟨a', b', c'⟩ <;> omega
  · refine ⟨fun p hp => ?_, fun p q hp hq he => ?_⟩
    · rw [e p hp, if_neg lt]; exact h1 p hp
    · rw [e p hp, e q hq, if_neg lt, if_neg lt] at he
      exact h2 p q hp hq he
/-- behind a record the one who won is ahead of the other one -/
theorem plc_ahead {n : Nat} {pl : Nat → Nat} (h : PlI n pl) {w l : Nat} (hw : w < n) (hl : l < n) (hne : w ≠ l) : plcV pl w l w < plcV pl w l l := by
  have n1 : pl w ≠ pl l := fun z => hne (h.2 w l hw hl z)
  unfold plcV
  by_cases q : pl l < pl w
  · rw [if_pos q, if_pos q, if_pos rfl, if_neg (fun z => hne z.symm), if_pos ⟨Nat.le_refl _, q⟩]
    omega
  · rw [if_neg q, if_neg q]
    omega
/-- the places, as bits -/
def orP (pl : Nat → Nat) : Nat → Nat
  | 0 => 0
  | k + 1 => orP pl k ||| 2 ^ pl k
theorem orP_bit (pl : Nat → Nat) (x : Nat) : ∀ k, (orP pl k).testBit x = true ↔ ∃ p, p < k ∧ pl p = x := by
  intro k
  induction k with
  | zero => show (0 : Nat).testBit x = true ↔ _; rw [Nat.zero_testBit]; exact ⟨fun z => (by cases z), fun ⟨p, h, _⟩ => absurd h (Nat.not_lt_zero _)⟩
  | succ k ih =>
    show (orP pl k ||| 2 ^ pl k).testBit x = true ↔ _
    rw [tb_ad, Bool.or_eq_true, ih, decide_eq_true_eq]
    constructor
    · rintro (⟨p, h1, h2⟩ | h)
      · exact ⟨p, by omega, h2⟩
      · exact ⟨k, by omega, h⟩
    · rintro ⟨p, h1, h2⟩
      by_cases z : p = k
      · subst z; exact Or.inr h2
      · exact Or.inl ⟨p, by omega, h2⟩
theorem orP_all {n : Nat} {pl : Nat → Nat} (h : PlI n pl) : orP pl n = 2 ^ n - 1 := by
  have cnt : ∀ k, k ≤ n → cf (orP pl k).testBit n = k := by
    intro k
    induction k with
    | zero => intro _; exact cf_zero n (fun c => Nat.zero_testBit c)
    | succ k ih =>
      intro hk
      have b := h.1 k (by omega)
      have e := cf_add (p := (orP pl k).testBit) (q := (orP pl (k + 1)).testBit) b (bool_f (fun z => by
        obtain ⟨p, p1, p2⟩ := (orP_bit pl _ k).1 z
        have := h.2 p k (by omega) (by omega) p2
        omega)) ((orP_bit pl _ (k + 1)).2 ⟨k, by omega, rfl⟩) (fun c hc => by
        show _ = (orP pl k ||| 2 ^ pl k).testBit c
        rw [tb_ad, decide_eq_false (fun z => hc z.symm), Bool.or_false])
      rw [e, ih (by omega)]
  refine Nat.eq_of_testBit_eq (fun i => ?_)
  rw [Nat.testBit_two_pow_sub_one]
  by_cases q : i < n
  · rw [decide_eq_true q]
    cases z : (orP pl n).testBit i with
    | true => rfl
    | false =>
      have := cf_lt (p := (orP pl n).testBit) q z
      rw [cnt n (Nat.le_refl _)] at this
      omega
  · rw [decide_eq_false q]
    refine bool_f (fun z => ?_)
    obtain ⟨p, p1, p2⟩ := (orP_bit pl _ n).1 z
    have := h.1 p p1
    omega
theorem orP_lt {n : Nat} {pl : Nat → Nat} (h : PlI n pl) {k : Nat} (hk : k ≤ n) : orP pl k < 2 ^ n := by
  refine Nat.lt_pow_two_of_testBit _ (fun i hi => bool_f (fun z => ?_))
  obtain ⟨p, p1, p2⟩ := (orP_bit pl _ k).1 z
  have := h.1 p (by omega)
  omega
/-! the tape -/
theorem scn_le (tp : Nat → Nat) : ∀ d i had, scn tp d i had = iN ∨ ∃ k, scn tp d i had = i32 k ∧ k ≤ i + d := by
  intro d
  induction d with
  | zero =>
    intro i had
    show (if had < 6 then i32 i else iN) = iN ∨ ∃ k, (if had < 6 then i32 i else iN) = i32 k ∧ k ≤ i + 0
    split
    · exact Or.inr ⟨i, rfl, by omega⟩
    · exact Or.inl rfl
  | succ d ih =>
    intro i had
    show (if nhd had (tp i) = 99 then i32 i else scn tp d (i + 1) (nhd had (tp i))) = iN ∨ ∃ k, (if nhd had (tp i) = 99 then i32 i else scn tp d (i + 1) (nhd had (tp i))) = i32 k ∧ k ≤ i + (d + 1)
    split
    · exact Or.inr ⟨i, rfl, by omega⟩
    · rcases ih (i + 1) (nhd had (tp i)) with h | ⟨k, h1, h2⟩
      · exact Or.inl h
      · exact Or.inr ⟨k, h1, by omega⟩
