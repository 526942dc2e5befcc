/-! the carrier and its answers, asked of the class -/
def CarP (K R C : Nat) (E own : Int64) (one oth : Nat) (v : Int64) : Prop := (v = -1 ∧ ∀ s, s < 2 ^ gn E → ¬ LH (TT K R C E own one oth) (gn E) 0 s) ∨ (∃ c, MinC (TT K R C E own one oth) (gn E) c ∧ v = spr E c (gn E))
theorem CarP_u {K R C : Nat} {E own : Int64} {one oth : Nat} {v w : Int64} (h : CarP K R C E own one oth v) (g : CarP K R C E own one oth w) : v = w := by
  rcases h with ⟨h1, h2⟩ | ⟨c, h1, h2⟩ <;> rcases g with ⟨g1, g2⟩ | ⟨d, g1, g2⟩
  · rw [h1, g1]
  · exact absurd g1.2.1 (h2 d g1.1)
  · exact absurd h1.2.1 (g2 c h1.1)
  · rw [h2, g2, MinC_u h1 g1]
def AnsP (T : Nat → Prop) (E : Int64) (rest : Nat) (x : Int32) : Prop := (∃ k, k < gn E ∧ rest.testBit k = true ∧ LH T (gn E) (2 ^ k) (ndf rest (2 ^ k)) ∧ (∀ i, i < k → rest.testBit i = true → ¬ LH T (gn E) (2 ^ i) (ndf rest (2 ^ i))) ∧ x = i32 (gc E k)) ∨ (x = iN ∧ ∀ k, k < gn E → rest.testBit k = true → ¬ LH T (gn E) (2 ^ k) (ndf rest (2 ^ k)))
theorem AnsP_u {T : Nat → Prop} {E : Int64} {rest : Nat} {x y : Int32} (h : AnsP T E rest x) (g : AnsP T E rest y) : x = y := by
  rcases h with ⟨k, h1, h2, h3, h4, h5⟩ | ⟨h1, h2⟩ <;> rcases g with ⟨l, g1, g2, g3, g4, g5⟩ | ⟨g1, g2⟩
  · rcases Nat.lt_trichotomy k l with q | q | q
    · exact absurd h3 (g4 k q h2)
    · rw [h5, g5, q]
    · exact absurd g3 (h4 l q g2)
  · exact absurd h3 (g2 k h1 h2)
  · exact absurd g3 (h2 l g1 g2)
  · rw [h1, g1]
def AnwP (K R C : Nat) (E own : Int64) (one oth cl : Nat) (x : Int32) : Prop := (x = iN ∧ ∀ s, s < 2 ^ gn E → ¬ LH (TT K R C E own one oth) (gn E) 0 s) ∨ (∃ c, MinC (TT K R C E own one oth) (gn E) c ∧ ((x = iN ∧ mb (spr E c (gn E)) cl = false) ∨ (mb (spr E c (gn E)) cl = true ∧ AnsP (TT K R C E own one oth) E (ndf c (2 ^ cf (mb E) cl)) x)))
theorem AnwP_u {K R C : Nat} {E own : Int64} {one oth cl : Nat} {x y : Int32} (h : AnwP K R C E own one oth cl x) (g : AnwP K R C E own one oth cl y) : x = y := by
  rcases h with ⟨h1, h2⟩ | ⟨c, h1, h2⟩ <;> rcases g with ⟨g1, g2⟩ | ⟨d, g1, g2⟩
  · rw [h1, g1]
  · exact absurd g1.2.1 (h2 d g1.1)
  · exact absurd h1.2.1 (g2 c h1.1)
  · have e := MinC_u h1 g1
    subst e
    rcases h2 with ⟨a1, a2⟩ | ⟨a1, a2⟩ <;> rcases g2 with ⟨b1, b2⟩ | ⟨b1, b2⟩
    · rw [a1, b1]
    · rw [a2] at b1; cases b1
    · rw [b2] at a1; cases a1
    · exact AnsP_u a2 b2
theorem spr_ne {E : Int64} (a n : Nat) (hn : n ≤ gn E) : spr E a n ≠ -1 := by
  intro z
  have h : mb (spr E a n) 63 = true := by rw [z]; exact mb_m1 63 (by decide)
  obtain ⟨k, k1, _, k3⟩ := (mb_spr 63 n hn).1 h
  have := (gc_spec (E := E) (k := k) (by omega)).1
  omega
theorem pop9 {n s : Nat} (hn : n ≤ 9) (hs : s < 2 ^ n) : ncnt s 9 = pop n s := by
  rw [cf_ncnt]
  exact cf_stop (p := s.testBit) (fun c hc => Nat.testBit_lt_two_pow (Nat.lt_of_lt_of_le hs (Nat.pow_le_pow_right (by decide) hc))) hn
section
variable {K R C : Nat} {E own : Int64} {one oth : Nat} (e : Nat) (I : Nat → Nat → Int32) (J : Nat → Nat → Int64) (B : Nat → Nat → Int64)
theorem sp_carrierOf (A : Nat → Nat → Int32) (hb : CB K R C I J A B) (hT : ∀ a, a < 512 → A 18 a = i32 (ter a)) (hg : gn E ≤ 9) (h1 : okE K R C one) (h2 : okE K R C oth) : ∃ I' J' A' v, f_X4_carrierOf [.ref 15, .long own, .long E, .int (i32 one), .int (i32 oth)] (79, e, mm_R0, I, J, A, B) = some (.inl (some (.long v)), (79, e, mm_R0, I', J', A', B)) ∧ CarP K R C E own one oth v ∧ BL K R C E own one oth I' J' A' B ∧ (∀ i, i ≠ 15 → i ≠ 16 → I' i = I i) ∧ (∀ i, i ≠ 15 → J' i = J i) ∧ (∀ i, i ≠ 17 → i ≠ 19 → i ≠ 20 → A' i = A i) := by
  have p9 := p512 hg
  have pp : 1 ≤ 2 ^ gn E := Nat.one_le_two_pow
  have hTa := TT_ad (E := E) (own := own) (one := one) (oth := oth) hb.v
  obtain ⟨A1, a1, a2, a3⟩ := sp_take_16 e (mm_up (mm_up I 15 5 (i32 one)) 15 6 (i32 oth)) (mm_up J 15 4 own) A B hg
  obtain ⟨I1, hI1⟩ : ∃ I1, I1 = mm_up (mm_up (mm_up I 15 5 (i32 one)) 15 6 (i32 oth)) 16 2 (i32 (gn E)) := ⟨_, rfl⟩
  obtain ⟨J1, hJ1⟩ : ∃ J1, J1 = mm_up J 15 4 own := ⟨_, rfl⟩
  obtain ⟨A2, hA2⟩ : ∃ A2, A2 = mm_put (mm_put A1 19 (fun j => if j < 512 then (0 : Int32).toInt8.toInt32 else A1 19 j)) 20 (fun j => if j < 19683 then (0 : Int32).toInt8.toInt32 else mm_put A1 19 (fun j => if j < 512 then (0 : Int32).toInt8.toInt32 else A1 19 j) 20 j) := ⟨_, rfl⟩
  have fI : ∀ i, i ≠ 15 → i ≠ 16 → I1 i = I i := fun i b1 b2 => by rw [hI1, mm_up_row _ _ _ _ _ b2, mm_up_row _ _ _ _ _ b1, mm_up_row _ _ _ _ _ b1]
  have fJ : ∀ i, i ≠ 15 → J1 i = J i := fun i b1 => by rw [hJ1, mm_up_row _ _ _ _ _ b1]
  have fA : ∀ i, i ≠ 17 → i ≠ 19 → i ≠ 20 → A2 i = A i := fun i b1 b2 b3 => by
    rw [hA2]; funext j
    rw [mm_put_ne _ _ _ _ _ b3, mm_put_ne _ _ _ _ _ b2, a3 i b1]
  have bl : BL K R C E own one oth I1 J1 A2 B := by
    refine ⟨hb.fr (fI 1 (by decide) (by decide)) (fJ 1 (by decide)) (fA 2 (by decide) (by decide) (by decide)) (fA 3 (by decide) (by decide) (by decide)) (fA 4 (by decide) (by decide) (by decide)) rfl rfl, ⟨hg, by rw [hI1, mm_up_eq], fun k hk => ?_⟩, fun a ha => by rw [fA 18 (by decide) (by decide) (by decide)]; exact hT a ha, by rw [hJ1, mm_up_eq], ?_, ?_, h1, h2, fun a ha => ?_, fun a b ha hb' hab => ?_⟩
    · rw [hA2, mm_put_ne _ _ _ _ _ (by decide), mm_put_ne _ _ _ _ _ (by decide)]; exact a2 k hk
    · rw [hI1, mm_up_ne1 _ _ _ _ _ _ (by decide), mm_up_ne2 _ _ _ _ _ _ (by decide), mm_up_eq]
    · rw [hI1, mm_up_ne1 _ _ _ _ _ _ (by decide), mm_up_eq]
    · left
      rw [hA2, mm_put_ne _ _ _ _ _ (by decide), mm_put_same, if_pos ha]; rfl
    · left
      rw [hA2, mm_put_same, if_pos (cd_lt hab)]; rfl
  have st : f_X4_carrierOf [.ref 15, .long own, .long E, .int (i32 one), .int (i32 oth)] (79, e, mm_R0, I, J, A, B) = mm_run (mm_pr tb_X4_carrierOf) (41, [some (.ref 15), some (.long own), none, some (.long E), none, some (.int (i32 one)), some (.int (i32 oth)), none, none, none], [], (79, e, mm_R0, I1, J1, A2, B)) := by
    rw [en_X4_carrierOf, sg_X4_carrierOf_0, a1, mm_aft_n, sg_X4_carrierOf_25, sp_J7_fill_031fb_19, mm_aft_n, sg_X4_carrierOf_33, sp_J7_fill_031fb_20, mm_aft_n, ← hI1, ← hJ1, ← hA2]
  have hol := sp_holds (K := K) (R := R) (C := C) (E := E) (own := own) (one := one) (oth := oth) e I1 J1 B (gn E) 11 (by omega)
  have pl : ∀ r, pop (gn E) r ≤ gn E := fun r => cf_le _ _
  obtain ⟨A3, b1, b2, b3⟩ := hol 0 (2 ^ gn E - 1) 0 A2 (by decide) (by omega) (Nat.zero_and _) (pl _) (by have := pl (2 ^ gn E - 1); omega) bl
  rw [st, sg_X4_carrierOf_41, sp_full_16 e I1 J1 A2 B bl.2.1, mm_aft_v, sg_X4_carrierOf_48]
  simp only [i32_l]
  rw [b1, mm_aft_v, sg_X4_carrierOf_58]
  cases hq : pdec (LH (TT K R C E own one oth) (gn E) 0 (2 ^ gn E - 1)) with
  | false =>
    refine ⟨I1, J1, A3, -1, ?_, Or.inl ⟨rfl, fun s hs z => ?_⟩, b2, fI, fJ, fun i c1 c2 c3 => by rw [b3 i c2 c3, fA i c1 c2 c3]⟩
    · rw [if_pos (show bi false = 0 from rfl)]
    · rw [pdec_t.2 (L_full hTa hs z)] at hq; cases hq
  | true =>
    rw [if_neg (show ¬ bi true = 0 by decide)]
    have inner : ∀ (sz : Nat), sz ≤ gn E → ∀ (dd s : Nat) (A4 : Nat → Nat → Int32), s + dd = 2 ^ gn E → BL K R C E own one oth I1 J1 A4 B → F3 A2 A4 → (∀ u, u < 2 ^ gn E → (pop (gn E) u < sz ∨ (pop (gn E) u = sz ∧ u < s)) → ¬ LH (TT K R C E own one oth) (gn E) 0 u) → (∃ A5 c, mm_run (mm_pr tb_X4_carrierOf) (83, [some (.ref 15), some (.long own), none, some (.long E), none, some (.int (i32 one)), some (.int (i32 oth)), some (.int (i32 (2 ^ gn E - 1))), some (.int (i32 sz)), some (.int (i32 s))], [], (79, e, mm_R0, I1, J1, A4, B)) = some (.inl (some (.long (spr E c (gn E)))), (79, e, mm_R0, I1, J1, A5, B)) ∧ MinC (TT K R C E own one oth) (gn E) c ∧ BL K R C E own one oth I1 J1 A5 B ∧ F3 A2 A5) ∨ (∃ A5, mm_run (mm_pr tb_X4_carrierOf) (83, [some (.ref 15), some (.long own), none, some (.long E), none, some (.int (i32 one)), some (.int (i32 oth)), some (.int (i32 (2 ^ gn E - 1))), some (.int (i32 sz)), some (.int (i32 s))], [], (79, e, mm_R0, I1, J1, A4, B)) = mm_run (mm_pr tb_X4_carrierOf) (68, [some (.ref 15), some (.long own), none, some (.long E), none, some (.int (i32 one)), some (.int (i32 oth)), some (.int (i32 (2 ^ gn E - 1))), some (.int (i32 (sz + 1))), some (.int (i32 (2 ^ gn E)))], [], (79, e, mm_R0, I1, J1, A5, B)) ∧ (∀ u, u < 2 ^ gn E → pop (gn E) u < sz + 1 → ¬ LH (TT K R C E own one oth) (gn E) 0 u) ∧ BL K R C E own one oth I1 J1 A5 B ∧ F3 A2 A5) := by
      intro sz hsz dd
      induction dd with
      | zero =>
        intro s A4 hs hbl f4 hu
        right
        refine ⟨A4, ?_, fun u u1 u2 => hu u u1 (by omega), hbl, f4⟩
        rw [sg_X4_carrierOf_83, if_pos (show i32 (2 ^ gn E - 1) < i32 s by rw [i32_lt (by omega) (by omega)]; omega), sg_X4_carrierOf_135]
        simp only [i32_l]
        rw [i32_add, show s = 2 ^ gn E by omega]
      | succ dd ih =>
        intro s A4 hs hbl f4 hu
        rw [sg_X4_carrierOf_83, if_neg (show ¬ i32 (2 ^ gn E - 1) < i32 s by rw [i32_lt (by omega) (by omega)]; omega), if_pos (show i32 s < (512 : Int32) by rw [show (512 : Int32) = i32 512 from rfl, i32_lt (by omega) (by omega)]; omega), sp_bitCountI _ (show s < 512 by omega), mm_aft_v, sg_X4_carrierOf_103, pop9 hg (by omega)]
        have go : ∀ A6, BL K R C E own one oth I1 J1 A6 B → F3 A2 A6 → (pop (gn E) s = sz → ¬ LH (TT K R C E own one oth) (gn E) 0 s) → (∃ A5 c, mm_run (mm_pr tb_X4_carrierOf) (129, [some (.ref 15), some (.long own), none, some (.long E), none, some (.int (i32 one)), some (.int (i32 oth)), some (.int (i32 (2 ^ gn E - 1))), some (.int (i32 sz)), some (.int (i32 s))], [], (79, e, mm_R0, I1, J1, A6, B)) = some (.inl (some (.long (spr E c (gn E)))), (79, e, mm_R0, I1, J1, A5, B)) ∧ MinC (TT K R C E own one oth) (gn E) c ∧ BL K R C E own one oth I1 J1 A5 B ∧ F3 A2 A5) ∨ (∃ A5, mm_run (mm_pr tb_X4_carrierOf) (129, [some (.ref 15), some (.long own), none, some (.long E), none, some (.int (i32 one)), some (.int (i32 oth)), some (.int (i32 (2 ^ gn E - 1))), some (.int (i32 sz)), some (.int (i32 s))], [], (79, e, mm_R0, I1, J1, A6, B)) = mm_run (mm_pr tb_X4_carrierOf) (68, [some (.ref 15), some (.long own), none, some (.long E), none, some (.int (i32 one)), some (.int (i32 oth)), some (.int (i32 (2 ^ gn E - 1))), some (.int (i32 (sz + 1))), some (.int (i32 (2 ^ gn E)))], [], (79, e, mm_R0, I1, J1, A5, B)) ∧ (∀ u, u < 2 ^ gn E → pop (gn E) u < sz + 1 → ¬ LH (TT K R C E own one oth) (gn E) 0 u) ∧ BL K R C E own one oth I1 J1 A5 B ∧ F3 A2 A5) := by
          intro A6 g1 g2 g3
          have i := ih (s + 1) A6 (by omega) g1 g2 (fun u u1 u2 => by
            by_cases q : u = s
            · subst q
              rcases u2 with u2 | u2
              · exact hu u u1 (Or.inl u2)
              · exact g3 u2.1
            · exact hu u u1 (by omega))
          rw [sg_X4_carrierOf_129]
          simp only [i32_l]
          rw [i32_add]
          exact i
        by_cases q : pop (gn E) s = sz
        · rw [if_pos (by rw [q])]
          obtain ⟨A6, c1, c2, c3⟩ := hol 0 s 0 A4 (by decide) (by omega) (Nat.zero_and _) (pl _) (by have := pl s; omega) hbl
          simp only [i32_l]
          rw [c1, mm_aft_v, sg_X4_carrierOf_116]
          cases hp : pdec (LH (TT K R C E own one oth) (gn E) 0 s) with
          | false =>
            rw [if_pos (show bi false = 0 from rfl)]
            exact go A6 c2 (f4.tr c3) (fun _ z => by rw [pdec_t.2 z] at hp; cases hp)
          | true =>
            left
            refine ⟨A6, s, ?_, ⟨by omega, pdec_t.1 hp, fun u u1 u2 => ?_⟩, c2, f4.tr c3⟩
            · rw [if_neg (show ¬ bi true = 0 by decide), sp_spread_16 e I1 J1 A6 B c2.2.1 (by omega), mm_aft_v, sg_X4_carrierOf_128]
            · rcases Nat.lt_trichotomy (pop (gn E) s) (pop (gn E) u) with y | y | y
              · exact Or.inl y
              · right
                refine ⟨y, ?_⟩
                rcases Nat.lt_or_ge u s with y2 | y2
                · exact absurd u2 (hu u u1 (Or.inr ⟨by omega, y2⟩))
                · exact y2
              · exact absurd u2 (hu u u1 (Or.inl (by omega)))
        · have ps := pl s
          rw [if_neg (by rw [i32_eq (by omega) (by omega)]; exact q)]
          exact go A4 hbl f4 (fun z => absurd z q)
    have outer : ∀ (dd sz : Nat) (o8 : Option Value) (A4 : Nat → Nat → Int32), sz + dd = gn E + 1 → BL K R C E own one oth I1 J1 A4 B → F3 A2 A4 → (∀ u, u < 2 ^ gn E → pop (gn E) u < sz → ¬ LH (TT K R C E own one oth) (gn E) 0 u) → ∃ A5 v, mm_run (mm_pr tb_X4_carrierOf) (68, [some (.ref 15), some (.long own), none, some (.long E), none, some (.int (i32 one)), some (.int (i32 oth)), some (.int (i32 (2 ^ gn E - 1))), some (.int (i32 sz)), o8], [], (79, e, mm_R0, I1, J1, A4, B)) = some (.inl (some (.long v)), (79, e, mm_R0, I1, J1, A5, B)) ∧ CarP K R C E own one oth v ∧ BL K R C E own one oth I1 J1 A5 B ∧ F3 A2 A5 := by
      intro dd
      induction dd with
      | zero =>
        intro sz o8 A4 hs hbl f4 hu
        have hc : I1 16 2 = i32 (gn E) := hbl.2.1.2.1
        refine ⟨A4, -1, ?_, Or.inl ⟨rfl, fun s hs' => hu s hs' (by have := pl s; omega)⟩, hbl, f4⟩
        rw [sg_X4_carrierOf_68, hc, if_pos (by rw [i32_lt (by omega) (by omega)]; omega)]
      | succ dd ih =>
        intro sz o8 A4 hs hbl f4 hu
        have hc : I1 16 2 = i32 (gn E) := hbl.2.1.2.1
        rw [sg_X4_carrierOf_68, hc, if_neg (by rw [i32_lt (by omega) (by omega)]; omega)]
        rcases inner sz (by omega) (2 ^ gn E) 0 A4 (by omega) hbl f4 (fun u u1 u2 => hu u u1 (by omega)) with ⟨A5, c, c1, c2, c3, c4⟩ | ⟨A5, c1, c2, c3, c4⟩
        · exact ⟨A5, _, c1, Or.inr ⟨c, c2, rfl⟩, c3, c4⟩
        · obtain ⟨A6, v, d1, d2⟩ := ih (sz + 1) (some (.int (i32 (2 ^ gn E)))) A5 (by omega) c3 c4 c2
          exact ⟨A6, v, Eq.trans c1 d1, d2⟩
    obtain ⟨A5, v, d1, d2, d3, d4⟩ := outer (gn E + 1) 0 none A3 (by omega) b2 b3 (fun u _ u2 => absurd u2 (Nat.not_lt_zero _))
    exact ⟨I1, J1, A5, v, d1, d2, d3, fI, fJ, fun i c1 c2 c3 => by rw [d4 i c2 c3, fA i c1 c2 c3]⟩
theorem sp_gather (A : Nat → Nat → Int32) (h : BL K R C E own one oth I J A B) {w : Int64} {x : Nat} (hx : x < 2 ^ gn E) (hw : ∀ k, k < gn E → mb w (gc E k) = x.testBit k) : f_X2_gather [.ref 16, .long w] (79, e, mm_R0, I, J, A, B) = some (.inl (some (.int (i32 x))), (79, e, mm_R0, I, J, A, B)) := by
  obtain ⟨g0, g1, g2⟩ := h.2.1
  have L : ∀ (dd k y : Nat), k + dd = gn E → y < 512 → (∀ j, y.testBit j = (decide (j < k) && x.testBit j)) → mm_run (mm_pr tb_X2_gather) (5, [some (.ref 16), some (.long w), none, some (.int (i32 y)), some (.int (i32 k))], [], (79, e, mm_R0, I, J, A, B)) = some (.inl (some (.int (i32 x))), (79, e, mm_R0, I, J, A, B)) := by
    intro dd
    induction dd with
    | zero =>
      intro k y hk hy hj
      have : y = x := Nat.eq_of_testBit_eq (fun j => by
        rw [hj j]
        by_cases q : j < k
        · rw [decide_eq_true q, Bool.true_and]
        · rw [decide_eq_false q, Bool.false_and]
          exact (Nat.testBit_lt_two_pow (Nat.lt_of_lt_of_le hx (Nat.pow_le_pow_right (by decide) (by omega)))).symm)
      rw [sg_X2_gather_16_5, g1, if_neg (by rw [i32_lt (by omega) (by omega)]; omega), sg_X2_gather_16_52, this]
    | succ dd ih =>
      intro k y hk hy hj
      have gk := gc_spec (E := E) (k := k) (by omega)
      rw [sg_X2_gather_16_5, g1, if_pos (show i32 k < i32 (gn E) by rw [i32_lt (by omega) (by omega)]; omega), if_pos (show i32 k < (9 : Int32) by rw [show (9 : Int32) = i32 9 from rfl, i32_lt (by omega) (by omega)]; omega), if_pos ((i32_in (by omega)).2 (by omega)), i32_ix (by omega), g2 k (by omega), sp_has _ _ (by omega), mm_aft_v, hw k (by omega), sg_X2_gather_16_33]
      cases hb : x.testBit k with
      | true =>
        rw [if_neg (show ¬ bi true = 0 by decide), sg_X2_gather_16_44]
        simp only [i32_l]
        rw [i32_shl (by omega), i32_or, i32_add]
        refine ih (k + 1) (y ||| 2 ^ k) (by omega) (or_lt512 hy (by omega)) (fun j => ?_)
        rw [tb_ad, hj j]
        by_cases q : k = j
        · subst q; rw [hb, decide_eq_true rfl, decide_eq_true (show k < k + 1 by omega)]; simp
        · rw [decide_eq_false q, Bool.or_false]
          by_cases q2 : j < k
          · rw [decide_eq_true q2, decide_eq_true (show j < k + 1 by omega)]
          · rw [decide_eq_false q2, decide_eq_false (show ¬ j < k + 1 by omega)]
      | false =>
        rw [if_pos (show bi false = 0 from rfl), sg_X2_gather_16_44]
        simp only [i32_l]
        rw [i32_or, i32_add, Nat.or_zero]
        refine ih (k + 1) y (by omega) hy (fun j => ?_)
        rw [hj j]
        by_cases q : k = j
        · subst q; rw [hb]; simp
        · by_cases q2 : j < k
          · rw [decide_eq_true q2, decide_eq_true (show j < k + 1 by omega)]
          · rw [decide_eq_false q2, decide_eq_false (show ¬ j < k + 1 by omega)]
  rw [en_X2_gather_16, sg_X2_gather_16_0]
  exact L (gn E) 0 0 (by omega) (by decide) (fun j => by rw [Nat.zero_testBit]; simp)
theorem sp_answerIn (A : Nat → Nat → Int32) (h : BL K R C E own one oth I J A B) {c cl : Nat} (hc : c < 2 ^ gn E) (hm : mb (spr E c (gn E)) cl = true) : ∃ A' x, f_X4_answerIn [.ref 15, .long (spr E c (gn E)), .int (i32 cl)] (79, e, mm_R0, I, J, A, B) = some (.inl (some (.int x)), (79, e, mm_R0, I, J, A', B)) ∧ AnsP (TT K R C E own one oth) E (ndf c (2 ^ cf (mb E) cl)) x ∧ BL K R C E own one oth I J A' B ∧ F3 A A' := by
  obtain ⟨g0, g1, g2⟩ := h.2.1
  have p9 := p512 g0
  obtain ⟨m1, m2, m3⟩ := spr_mem.1 hm
  have gl := gc_of m1 m2
  obtain ⟨rs, hrs⟩ : ∃ rs, rs = ndf c (2 ^ cf (mb E) cl) := ⟨_, rfl⟩
  have rl : rs < 2 ^ gn E := by rw [hrs]; exact ndf_lt hc
  have ga := sp_gather e I J B A h (w := spr E c (gn E) &&& (mbit cl ^^^ (-1))) rl (fun k hk => by
    have gk := gc_spec hk
    rw [mb_and, mb_cpl _ _ (by omega), mb_bit _ _ (by omega), hrs, tb_rm]
    have e1 : mb (spr E c (gn E)) (gc E k) = c.testBit k := by
      rw [Bool.eq_iff_iff, spr_mem]
      constructor
      · rintro ⟨_, _, q⟩; rw [gk.2.2] at q; exact q
      · intro q; exact ⟨gk.1, gk.2.1, by rw [gk.2.2]; exact q⟩
    rw [e1]
    congr 2
    rw [decide_eq_decide]
    constructor
    · intro q; rw [q, gk.2.2]
    · intro q; rw [← q]; exact gl.2.symm)
  rw [← hrs]
  have hol := sp_holds (K := K) (R := R) (C := C) (E := E) (own := own) (one := one) (oth := oth) e I J B (gn E) 11 (by omega)
  have L : ∀ (dd k : Nat) (A : Nat → Nat → Int32), k + dd = gn E → BL K R C E own one oth I J A B → (∀ i, i < k → rs.testBit i = true → ¬ LH (TT K R C E own one oth) (gn E) (2 ^ i) (ndf rs (2 ^ i))) → ∃ A' x, mm_run (mm_pr tb_X4_answerIn) (21, [some (.ref 15), some (.long (spr E c (gn E))), none, some (.int (i32 cl)), some (.int (i32 rs)), some (.int (i32 k))], [], (79, e, mm_R0, I, J, A, B)) = some (.inl (some (.int x)), (79, e, mm_R0, I, J, A', B)) ∧ AnsP (TT K R C E own one oth) E rs x ∧ BL K R C E own one oth I J A' B ∧ F3 A A' := by
    intro dd
    induction dd with
    | zero =>
      intro k A hk hb hj
      refine ⟨A, iN, ?_, Or.inr ⟨rfl, fun i i1 i2 => hj i (by omega) i2⟩, hb, fun _ _ _ => rfl⟩
      rw [sg_X4_answerIn_21, g1, if_neg (by rw [i32_lt (by omega) (by omega)]; omega)]
      rfl
    | succ dd ih =>
      intro k A hk hb hj
      have go : ∀ A1, BL K R C E own one oth I J A1 B → F3 A A1 → (rs.testBit k = true → ¬ LH (TT K R C E own one oth) (gn E) (2 ^ k) (ndf rs (2 ^ k))) → ∃ A' x, mm_run (mm_pr tb_X4_answerIn) (75, [some (.ref 15), some (.long (spr E c (gn E))), none, some (.int (i32 cl)), some (.int (i32 rs)), some (.int (i32 k))], [], (79, e, mm_R0, I, J, A1, B)) = some (.inl (some (.int x)), (79, e, mm_R0, I, J, A', B)) ∧ AnsP (TT K R C E own one oth) E rs x ∧ BL K R C E own one oth I J A' B ∧ F3 A A' := by
        intro A1 x1 x2 x3
        obtain ⟨A', x, i1, i2, i3, i4⟩ := ih (k + 1) A1 (by omega) x1 (fun i i1 i2 => by
          by_cases q : i = k
          · subst q; exact x3 i2
          · exact hj i (by omega) i2)
        refine ⟨A', x, ?_, i2, i3, x2.tr i4⟩
        rw [← i1, sg_X4_answerIn_75]
        simp only [i32_l, i32_add]
      rw [sg_X4_answerIn_21, g1, if_pos (by rw [i32_lt (by omega) (by omega)]; omega), sp_has _ _ (by omega), mm_aft_v, mb_i32 (by omega), sg_X4_answerIn_41]
      cases hp : rs.testBit k with
      | false =>
        rw [if_pos (show bi false = 0 from rfl)]
        exact go A hb (fun _ _ _ => rfl) (fun z => by rw [hp] at z; cases z)
      | true =>
        have pk : 2 ^ k < 512 := by have := or_lt512 (m := 0) (k := k) (by decide) (by omega); rwa [Nat.zero_or] at this
        have pr := pop_rm (n := gn E) (show k < gn E by omega) hp
        have pl : pop (gn E) rs ≤ gn E := cf_le _ _
        have dj : 2 ^ k &&& ndf rs (2 ^ k) = 0 := by have := and0_mv (m := 0) (r := rs) (k := k) (Nat.zero_and _); rwa [Nat.zero_or] at this
        obtain ⟨A1, b1, b2, b3⟩ := hol (2 ^ k) (ndf rs (2 ^ k)) 0 A pk (ndf_le512 (by omega)) dj (by omega) (by omega) hb
        rw [if_neg (show ¬ bi true = 0 by decide)]
        simp only [i32_l]
        rw [i32_shl (by omega), show i32 rs &&& (i32 (2 ^ k) ^^^ (-(i32 1))) = i32 (ndf rs (2 ^ k)) from i32_ndf _ _, b1, mm_aft_v, sg_X4_answerIn_62]
        cases hq : pdec (LH (TT K R C E own one oth) (gn E) (2 ^ k) (ndf rs (2 ^ k))) with
        | false =>
          rw [if_pos (show bi false = 0 from rfl)]
          exact go A1 b2 b3 (fun _ z => by rw [pdec_t.2 z] at hq; cases hq)
        | true =>
          refine ⟨A1, i32 (gc E k), ?_, Or.inl ⟨k, by omega, hp, pdec_t.1 hq, hj, rfl⟩, b2, b3⟩
          have q2 := b2.2.1
          rw [if_neg (show ¬ bi true = 0 by decide), en_X2_cellAt_16, sg_X2_cellAt_16_0]
          simp (disch := omega) only [i32_l, iN_l, i32_add, i32_mul, i32_r0, i32_r1, run_bi, run_bi', i32_sub, decide_eq_true_eq, bi_rt, bi_em, bi_0, bi_1, i32_lt, i32_eq, iN_ne, iN_lt, iN_nlt, i32_ix, i32_in,  mm_aft_v, mm_aft_n, mm_aft_x, if_pos, if_neg, ite_true, ite_false, if_true, if_false, not_false_eq_true, not_true_eq_false, q2.2.1, q2.2.2 k (by omega), sg_X2_cellAt_16_28, sg_X4_answerIn_74]
  have hz : (mbit cl ^^^ (-1 : Int64)) = (((1 : Int64) <<< ((i32 cl).toInt64 &&& 63)) ^^^ (-1 : Int64)) := rfl
  rw [en_X4_answerIn, sg_X4_answerIn_0, ← hz, ga, mm_aft_v, sg_X4_answerIn_16]
  exact L (gn E) 0 A (by omega) h (fun i hi => absurd hi (Nat.not_lt_zero _))
end
