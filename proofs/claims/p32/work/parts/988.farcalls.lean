/-! how far it is: calls -/
noncomputable def dD (K R C : Nat) (a own fr : Int64) (c : Nat) : Nat := @dite Nat (bN K R C ≤ 36) (Nat.decLe _ _) (fun h => Classical.choose (Ds_ex (nb := bNb K R C) (a := a) (own := own) (fr := fr) h c)) (fun _ => 0)
theorem dD_s {K R C : Nat} (h : bN K R C ≤ 36) (a own fr : Int64) (c : Nat) : Ds (bN K R C) (bNb K R C) a own fr c (dD K R C a own fr c) := by
  unfold dD
  rw [dif_pos h]
  exact Classical.choose_spec (Ds_ex (nb := bNb K R C) (a := a) (own := own) (fr := fr) h c)
theorem dD_of {K R C : Nat} (h : bN K R C ≤ 36) {a own fr : Int64} {c v : Nat} (hv : Ds (bN K R C) (bNb K R C) a own fr c v) : v = dD K R C a own fr c := Ds_u hv (dD_s h a own fr c)
theorem dD_le {K R C : Nat} (h : bN K R C ≤ 36) (a own fr : Int64) (c : Nat) : dD K R C a own fr c ≤ 36 ∧ RP (bN K R C) (bNb K R C) a own fr (dD K R C a own fr c) c ∨ dD K R C a own fr c = 1000 := by
  rcases dD_s h a own fr c with ⟨h1, h2, _⟩ | ⟨h1, _⟩
  · exact Or.inl ⟨h1, h2⟩
  · exact Or.inr h1
theorem dD_wt {K R C : Nat} (h : bN K R C ≤ 36) (a own fr : Int64) (c : Nat) : wt own c ≤ dD K R C a own fr c ∧ dD K R C a own fr c ≤ 1000 := by
  have w := wt_le own c
  rcases dD_le h a own fr c with ⟨h1, h2⟩ | h1
  · have := h2.ge; omega
  · omega
noncomputable def far2 (K R C : Nat) (own fr : Int64) (s : Nat) : Nat := mn (fun c => mb (bSs K R C (s + 1)) c) (dD K R C (bSs K R C s) own fr) (bN K R C)
noncomputable def far3 (K R C : Nat) (own fr : Int64) : Nat := mn (fun _ => true) (fun c => dD K R C (bSs K R C 0) own fr c + dD K R C (bSs K R C 1) own fr c + dD K R C (bSs K R C 2) own fr c - (if mb fr c = true then 2 else 0)) (bN K R C)
noncomputable def farA (K R C p : Nat) (own fr : Int64) : Int32 := if (if K = 1 then far3 K R C own fr else far2 K R C own fr (if p = 0 then 0 else 2)) < 1000 then i32 (if K = 1 then far3 K R C own fr else far2 K R C own fr (if p = 0 then 0 else 2)) else iN
/-- the reference's sums -/
noncomputable def smF (K R C : Nat) (own fr : Int64) (s : Nat) : Nat → Nat → Nat
  | 0, _ => 0
  | j + 1, c => smF K R C own fr s j c + (dD K R C (bSs K R C (s + j)) own fr c - (if 0 < j then wt own c else 0))
section
variable {K R C : Nat} {own oth fr : Int64}
theorem far_two (v : bV K R C = true) (s : Nat) (hp : ∀ c, c < bN K R C → (psw own fr c ↔ mb oth c = false)) : (if far2 K R C own fr s < 1000 then i32 (far2 K R C own fr s) else iN) = (if mn (fun c => !mb oth c) (smF K R C own fr s 2) (bN K R C) < 500 then i32 (mn (fun c => !mb oth c) (smF K R C own fr s 2) (bN K R C)) else iN) := by
  have hN := bN_le v
  have sm : ∀ c, smF K R C own fr s 2 c = dD K R C (bSs K R C s) own fr c + (dD K R C (bSs K R C (s + 1)) own fr c - wt own c) := by
    intro c
    show 0 + (dD K R C (bSs K R C (s + 0)) own fr c - (if 0 < 0 then wt own c else 0)) + (dD K R C (bSs K R C (s + 1)) own fr c - (if 0 < 1 then wt own c else 0)) = _
    rw [if_neg (Nat.lt_irrefl 0), if_pos (by decide), Nat.zero_add, Nat.sub_zero, Nat.add_zero]
  have A : far2 K R C own fr s < 1000 → mn (fun c => !mb oth c) (smF K R C own fr s 2) (bN K R C) ≤ far2 K R C own fr s ∧ far2 K R C own fr s ≤ 36 := by
    intro h
    rcases mn_att (fun c => mb (bSs K R C (s + 1)) c) (dD K R C (bSs K R C s) own fr) (bN K R C) with q | ⟨c, c1, c2, c3⟩
    · have : far2 K R C own fr s = 1000 := q
      omega
    · have e : far2 K R C own fr s = dD K R C (bSs K R C s) own fr c := c3
      rcases dD_le hN (bSs K R C s) own fr c with ⟨h1, h2⟩ | h1
      · have ps := h2.ps
        have d2 : dD K R C (bSs K R C (s + 1)) own fr c = wt own c := by
          have b := RP.base (nb := bNb K R C) c1 c2 ps
          have ge := (dD_wt hN (bSs K R C (s + 1)) own fr c).1
          rcases dD_s hN (bSs K R C (s + 1)) own fr c with ⟨x1, x2, x3⟩ | ⟨x1, x2⟩
          · have := x3 _ b; omega
          · exact absurd b (x2 _)
        have le := mn_le (p := fun c => !mb oth c) (v := smF K R C own fr s 2) c1 (by rw [(hp c c1).1 ps]; rfl)
        rw [sm c, d2] at le
        omega
      · omega
  have Bk : mn (fun c => !mb oth c) (smF K R C own fr s 2) (bN K R C) < 500 → far2 K R C own fr s ≤ mn (fun c => !mb oth c) (smF K R C own fr s 2) (bN K R C) := by
    intro h
    rcases mn_att (fun c => !mb oth c) (smF K R C own fr s 2) (bN K R C) with q | ⟨c, c1, c2, c3⟩
    · omega
    · rw [c3, sm c] at h ⊢
      have w := wt_le own c
      have g1 := dD_wt hN (bSs K R C (s + 1)) own fr c
      rcases dD_le hN (bSs K R C s) own fr c with ⟨h1, h2⟩ | h1
      · rcases dD_le hN (bSs K R C (s + 1)) own fr c with ⟨k1, k2⟩ | k1
        · obtain ⟨c', e1, e2, e3, e4⟩ := RP_join (N := bN K R C) (nb := bNb K R C) (fun x y hx hy => nb_sym v hx hy) k2 _ h2
          have le := mn_le (p := fun c => mb (bSs K R C (s + 1)) c) (v := dD K R C (bSs K R C s) own fr) e1 e2
          have : dD K R C (bSs K R C s) own fr c' ≤ dD K R C (bSs K R C s) own fr c + dD K R C (bSs K R C (s + 1)) own fr c - wt own c := by
            rcases dD_s hN (bSs K R C s) own fr c' with ⟨x1, x2, x3⟩ | ⟨x1, x2⟩
            · exact x3 _ e4
            · exact absurd e4 (x2 _)
          have f2 : far2 K R C own fr s ≤ dD K R C (bSs K R C s) own fr c' := le
          omega
        · omega
      · omega
  by_cases q : far2 K R C own fr s < 1000
  · obtain ⟨a1, a2⟩ := A q
    have b := Bk (by omega)
    rw [if_pos q, if_pos (by omega), show mn (fun c => !mb oth c) (smF K R C own fr s 2) (bN K R C) = far2 K R C own fr s by omega]
  · rw [if_neg q, if_neg (fun z => by have := Bk z; omega)]
theorem far_three (v : bV K R C = true) (hp : ∀ c, c < bN K R C → (psw own fr c ↔ mb oth c = false)) (hd : ∀ c, mb own c = true → mb fr c = true → False) : (if far3 K R C own fr < 1000 then i32 (far3 K R C own fr) else iN) = (if mn (fun c => !mb oth c) (smF K R C own fr 0 3) (bN K R C) < 500 then i32 (mn (fun c => !mb oth c) (smF K R C own fr 0 3) (bN K R C)) else iN) := by
  have hN := bN_le v
  have sm : ∀ c, smF K R C own fr 0 3 c = dD K R C (bSs K R C 0) own fr c + (dD K R C (bSs K R C 1) own fr c - wt own c) + (dD K R C (bSs K R C 2) own fr c - wt own c) := by
    intro c
    show 0 + (dD K R C (bSs K R C (0 + 0)) own fr c - (if 0 < 0 then wt own c else 0)) + (dD K R C (bSs K R C (0 + 1)) own fr c - (if 0 < 1 then wt own c else 0)) + (dD K R C (bSs K R C (0 + 2)) own fr c - (if 0 < 2 then wt own c else 0)) = _
    rw [if_neg (Nat.lt_irrefl 0), if_pos (by decide), if_pos (by decide), Nat.zero_add, Nat.sub_zero]
  have vw : ∀ c, psw own fr c → (if mb fr c = true then 2 else 0) = 2 * wt own c := by
    intro c hc
    unfold wt
    rcases hc with q | q
    · rw [if_pos q, if_neg (fun z => hd c q z)]
    · rw [if_pos q, if_neg (fun z => hd c z q)]
  have vs : ∀ c, psw own fr c → dD K R C (bSs K R C 0) own fr c + dD K R C (bSs K R C 1) own fr c + dD K R C (bSs K R C 2) own fr c - (if mb fr c = true then 2 else 0) = smF K R C own fr 0 3 c := by
    intro c hc
    rw [vw c hc, sm c]
    have a1 := (dD_wt hN (bSs K R C 1) own fr c).1
    have a2 := (dD_wt hN (bSs K R C 2) own fr c).1
    omega
  have A : far3 K R C own fr < 1000 → mn (fun c => !mb oth c) (smF K R C own fr 0 3) (bN K R C) ≤ far3 K R C own fr ∧ far3 K R C own fr ≤ 108 := by
    intro h
    rcases mn_att (fun _ => true) (fun c => dD K R C (bSs K R C 0) own fr c + dD K R C (bSs K R C 1) own fr c + dD K R C (bSs K R C 2) own fr c - (if mb fr c = true then 2 else 0)) (bN K R C) with q | ⟨c, c1, c2, c3⟩
    · have : far3 K R C own fr = 1000 := q
      omega
    · have e : far3 K R C own fr = dD K R C (bSs K R C 0) own fr c + dD K R C (bSs K R C 1) own fr c + dD K R C (bSs K R C 2) own fr c - (if mb fr c = true then 2 else 0) := c3
      have w := wt_le own c
      have b0 := dD_wt hN (bSs K R C 0) own fr c
      have b1 := dD_wt hN (bSs K R C 1) own fr c
      have b2 := dD_wt hN (bSs K R C 2) own fr c
      have ps : psw own fr c := by
        rcases dD_le hN (bSs K R C 0) own fr c with ⟨_, h2⟩ | h0
        · exact h2.ps
        · rcases dD_le hN (bSs K R C 1) own fr c with ⟨_, h2⟩ | h1
          · exact h2.ps
          · exfalso
            split at e <;> omega
      have le := mn_le (p := fun c => !mb oth c) (v := smF K R C own fr 0 3) c1 (by rw [(hp c c1).1 ps]; rfl)
      rw [← vs c ps, ← e] at le
      rw [vw c ps] at e
      refine ⟨le, ?_⟩
      rcases dD_le hN (bSs K R C 0) own fr c with ⟨h0, _⟩ | h0 <;> rcases dD_le hN (bSs K R C 1) own fr c with ⟨h1, _⟩ | h1 <;> rcases dD_le hN (bSs K R C 2) own fr c with ⟨h2, _⟩ | h2 <;> omega
  have Bk : mn (fun c => !mb oth c) (smF K R C own fr 0 3) (bN K R C) < 500 → far3 K R C own fr ≤ mn (fun c => !mb oth c) (smF K R C own fr 0 3) (bN K R C) := by
    intro h
    rcases mn_att (fun c => !mb oth c) (smF K R C own fr 0 3) (bN K R C) with q | ⟨c, c1, c2, c3⟩
    · omega
    · have oc : mb oth c = false := by
        cases y : mb oth c with
        | false => rfl
        | true => rw [y] at c2; cases c2
      have ps := (hp c c1).2 oc
      have le := mn_le (p := fun _ => true) (v := fun c => dD K R C (bSs K R C 0) own fr c + dD K R C (bSs K R C 1) own fr c + dD K R C (bSs K R C 2) own fr c - (if mb fr c = true then 2 else 0)) c1 rfl
      have le2 : far3 K R C own fr ≤ dD K R C (bSs K R C 0) own fr c + dD K R C (bSs K R C 1) own fr c + dD K R C (bSs K R C 2) own fr c - (if mb fr c = true then 2 else 0) := le
      rw [vs c ps] at le2
      rw [c3]; exact le2
  by_cases q : far3 K R C own fr < 1000
  · obtain ⟨a1, a2⟩ := A q
    have b := Bk (by omega)
    rw [if_pos q, if_pos (by omega), show mn (fun c => !mb oth c) (smF K R C own fr 0 3) (bN K R C) = far3 K R C own fr by omega]
  · rw [if_neg q, if_neg (fun z => by have := Bk z; omega)]
end
section
variable {K R C : Nat} (e : Nat) (I : Nat → Nat → Int32) (J : Nat → Nat → Int64) (B : Nat → Nat → Int64)
theorem sp_cost (A : Nat → Nat → Int32) {st c v : Nat} (hst : st < 3) (hc : c < 36) (hv : A 22 (st * 36 + c) = i32 v) : f_X9_cost [.ref 21, .int (i32 st), .int (i32 c)] (79, e, mm_R0, I, J, A, B) = some (.inl (some (.int (i32 v))), (79, e, mm_R0, I, J, A, B)) := by
  rw [en_X9_cost, sg_X9_cost_0]
  simp (disch := omega) only [i32_l, iN_l, i32_add, i32_mul, i32_r0, i32_r1, run_bi, run_bi', i32_sub, decide_eq_true_eq, bi_rt, bi_em, bi_0, bi_1, i32_lt, i32_eq, iN_ne, iN_lt, iN_nlt, i32_ix, i32_in,  mm_aft_v, mm_aft_n, mm_aft_x, if_pos, if_neg, ite_true, ite_false, if_true, if_false, not_false_eq_true, not_true_eq_false, hv, sg_X9_cost_32]
theorem min_i {a b : Nat} (ha : a ≤ 1000) (hb : b ≤ 4000) : (if i32 b < i32 a then i32 b else i32 a) = i32 (min a b) := i32_min (by omega) (by omega)
theorem sp_fewest2 (A : Nat → Nat → Int32) (h : CB K R C I J A B) {s : Nat} (hs : s + 1 < 4) (own fr : Int64) (hd : ∀ c, mb own c = true → mb fr c = true → False) (hfr : ∀ c, mb fr c = true → c < bN K R C) : ∃ A', f_X9_fewestToTwo [.ref 21, .int (i32 s), .int (i32 (s + 1)), .long own, .long fr] (79, e, mm_R0, I, J, A, B) = some (.inl (some (.int (i32 (far2 K R C own fr s)))), (79, e, mm_R0, I, J, A', B)) ∧ (∀ i, i ≠ 22 → A' i = A i) := by
  have hN := bN_le h.v
  obtain ⟨A1, m1, m2, m3, m4⟩ := sp_measure e I J B A h (st := 0) (by decide) (bSs K R C s) own fr hd hfr
  have h1 := h.fr22 I J B m4
  refine ⟨A1, ?_, m4⟩
  have L : ∀ dd c, c + dd = bN K R C → mm_run (mm_pr tb_X9_fewestToTwo) (24, [some (.ref 21), some (.int (i32 s)), some (.int (i32 (s + 1))), some (.long own), none, some (.long fr), none, some (.int (i32 (mn (fun c => mb (bSs K R C (s + 1)) c) (dD K R C (bSs K R C s) own fr) c))), some (.int (i32 c))], [], (79, e, mm_R0, I, J, A1, B)) = some (.inl (some (.int (i32 (far2 K R C own fr s)))), (79, e, mm_R0, I, J, A1, B)) := by
    intro dd
    induction dd with
    | zero =>
      intro c hc
      rw [sg_X9_fewestToTwo_24, h1.cells, if_neg (by rw [i32_lt (by omega) (by omega)]; omega), show c = bN K R C by omega]
      rfl
    | succ dd ih =>
      intro c hc
      obtain ⟨v, v1, v2⟩ := m2 c (by omega)
      rw [dD_of hN v2] at v1
      have un : mn (fun c => mb (bSs K R C (s + 1)) c) (dD K R C (bSs K R C s) own fr) (c + 1) = (if mb (bSs K R C (s + 1)) c = true then min (mn (fun c => mb (bSs K R C (s + 1)) c) (dD K R C (bSs K R C s) own fr) c) (dD K R C (bSs K R C s) own fr c) else mn (fun c => mb (bSs K R C (s + 1)) c) (dD K R C (bSs K R C s) own fr) c) := rfl
      have ml := mn_le1 (fun c => mb (bSs K R C (s + 1)) c) (dD K R C (bSs K R C s) own fr) c
      have dl := (dD_wt hN (bSs K R C s) own fr c).2
      rw [← ih (c + 1) (by omega), un, sg_X9_fewestToTwo_24, h1.cells, if_pos (by rw [i32_lt (by omega) (by omega)]; omega), sp0_side e I J B A1 h1 (by omega), mm_aft_v, sg_X9_fewestToTwo_44, sp_has _ _ (by omega), mm_aft_v, sg_X9_fewestToTwo_49]
      cases q : mb (bSs K R C (s + 1)) c with
      | true =>
        rw [if_neg (show ¬ bi true = 0 by decide), if_pos rfl]
        simp only [i32_l]
        rw [sp_cost e I J B A1 (st := 0) (by decide) (by omega) v1, mm_aft_v, sg_X9_fewestToTwo_61, sp_min, min_i ml (by omega), mm_aft_v, sg_X9_fewestToTwo_64, sg_X9_fewestToTwo_66]
        simp only [i32_l, i32_add]
      | false =>
        rw [if_pos (show bi false = 0 from rfl), if_neg (by decide), sg_X9_fewestToTwo_66]
        simp only [i32_l, i32_add]
  rw [en_X9_fewestToTwo, sg_X9_fewestToTwo_0, sp0_side e I J B A h (by omega), mm_aft_v, sg_X9_fewestToTwo_10]
  simp only [i32_l]
  rw [m1, mm_aft_n, sg_X9_fewestToTwo_16]
  exact L (bN K R C) 0 (by omega)
theorem sp_fewest3 (A : Nat → Nat → Int32) (h : CB K R C I J A B) (own fr : Int64) (hd : ∀ c, mb own c = true → mb fr c = true → False) (hfr : ∀ c, mb fr c = true → c < bN K R C) : ∃ A', f_X9_fewestToThree [.ref 21, .long own, .long fr] (79, e, mm_R0, I, J, A, B) = some (.inl (some (.int (i32 (far3 K R C own fr)))), (79, e, mm_R0, I, J, A', B)) ∧ (∀ i, i ≠ 22 → A' i = A i) := by
  have hN := bN_le h.v
  obtain ⟨A1, m1, m2, m3, m4⟩ := sp_measure e I J B A h (st := 0) (by decide) (bSs K R C 0) own fr hd hfr
  have h1 := h.fr22 I J B m4
  obtain ⟨A2, n1, n2, n3, n4⟩ := sp_measure e I J B A1 h1 (st := 1) (by decide) (bSs K R C 1) own fr hd hfr
  have h2 := h1.fr22 I J B n4
  obtain ⟨A3, o1, o2, o3, o4⟩ := sp_measure e I J B A2 h2 (st := 2) (by decide) (bSs K R C 2) own fr hd hfr
  have h3 := h2.fr22 I J B o4
  refine ⟨A3, ?_, fun i hi => by rw [o4 i hi, n4 i hi, m4 i hi]⟩
  have c0 : ∀ c, c < bN K R C → A3 22 (0 * 36 + c) = i32 (dD K R C (bSs K R C 0) own fr c) := fun c hc => by
    obtain ⟨v, v1, v2⟩ := m2 c hc
    rw [o3 _ (by omega), n3 _ (by omega), v1, dD_of hN v2]
  have c1 : ∀ c, c < bN K R C → A3 22 (1 * 36 + c) = i32 (dD K R C (bSs K R C 1) own fr c) := fun c hc => by
    obtain ⟨v, v1, v2⟩ := n2 c hc
    rw [o3 _ (by omega), v1, dD_of hN v2]
  have c2 : ∀ c, c < bN K R C → A3 22 (2 * 36 + c) = i32 (dD K R C (bSs K R C 2) own fr c) := fun c hc => by
    obtain ⟨v, v1, v2⟩ := o2 c hc
    rw [v1, dD_of hN v2]
  have L : ∀ (dd c : Nat) (o7 : Option Value), c + dd = bN K R C → mm_run (mm_pr tb_X9_fewestToThree) (40, [some (.ref 21), some (.long own), none, some (.long fr), none, some (.int (i32 (mn (fun _ => true) (fun c => dD K R C (bSs K R C 0) own fr c + dD K R C (bSs K R C 1) own fr c + dD K R C (bSs K R C 2) own fr c - (if mb fr c = true then 2 else 0)) c))), some (.int (i32 c)), o7], [], (79, e, mm_R0, I, J, A3, B)) = some (.inl (some (.int (i32 (far3 K R C own fr)))), (79, e, mm_R0, I, J, A3, B)) := by
    intro dd
    induction dd with
    | zero =>
      intro c o7 hc
      rw [sg_X9_fewestToThree_40, h3.cells, if_neg (by rw [i32_lt (by omega) (by omega)]; omega), show c = bN K R C by omega]
      rfl
    | succ dd ih =>
      intro c o7 hc
      have un : mn (fun _ => true) (fun c => dD K R C (bSs K R C 0) own fr c + dD K R C (bSs K R C 1) own fr c + dD K R C (bSs K R C 2) own fr c - (if mb fr c = true then 2 else 0)) (c + 1) = min (mn (fun _ => true) (fun c => dD K R C (bSs K R C 0) own fr c + dD K R C (bSs K R C 1) own fr c + dD K R C (bSs K R C 2) own fr c - (if mb fr c = true then 2 else 0)) c) (dD K R C (bSs K R C 0) own fr c + dD K R C (bSs K R C 1) own fr c + dD K R C (bSs K R C 2) own fr c - (if mb fr c = true then 2 else 0)) := rfl
      have ml := mn_le1 (fun _ => true) (fun c => dD K R C (bSs K R C 0) own fr c + dD K R C (bSs K R C 1) own fr c + dD K R C (bSs K R C 2) own fr c - (if mb fr c = true then 2 else 0)) c
      have d0 := dD_wt hN (bSs K R C 0) own fr c
      have d1 := dD_wt hN (bSs K R C 1) own fr c
      have d2 := dD_wt hN (bSs K R C 2) own fr c
      rw [← ih (c + 1) (some (.int (i32 (dD K R C (bSs K R C 0) own fr c + dD K R C (bSs K R C 1) own fr c + dD K R C (bSs K R C 2) own fr c)))) (by omega), un, sg_X9_fewestToThree_40, h3.cells, if_pos (by rw [i32_lt (by omega) (by omega)]; omega)]
      simp only [i32_l]
      rw [sp_cost e I J B A3 (st := 0) (by decide) (by omega) (c0 c (by omega)), mm_aft_v, sg_X9_fewestToThree_59]
      simp only [i32_l]
      rw [sp_cost e I J B A3 (st := 1) (by decide) (by omega) (c1 c (by omega)), mm_aft_v, sg_X9_fewestToThree_66]
      simp only [i32_l]
      rw [sp_cost e I J B A3 (st := 2) (by decide) (by omega) (c2 c (by omega)), mm_aft_v, sg_X9_fewestToThree_74, i32_add, i32_add, sp_has _ _ (by omega), mm_aft_v, sg_X9_fewestToThree_85]
      cases q : mb fr c with
      | true =>
        have w1 : wt own c = 1 := by unfold wt; rw [if_neg (fun z => hd c z q)]
        rw [if_neg (show ¬ bi true = 0 by decide), if_pos rfl]
        simp only [i32_l]
        rw [i32_sub (by omega), sg_X9_fewestToThree_97, sp_min, min_i ml (by omega), mm_aft_v, sg_X9_fewestToThree_100]
        simp only [i32_l, i32_add]
      | false =>
        rw [if_pos (show bi false = 0 from rfl), if_neg (by decide), sg_X9_fewestToThree_97, sp_min, min_i ml (by omega), mm_aft_v, sg_X9_fewestToThree_100]
        simp only [i32_l, i32_add]
        rfl
  rw [en_X9_fewestToThree, sg_X9_fewestToThree_0, sg_X9_fewestToThree_3, if_pos (by decide)]
  simp only [i32_l]
  rw [sp0_side e I J B A h (by decide), mm_aft_v, sg_X9_fewestToThree_21, m1, mm_aft_n, sg_X9_fewestToThree_26, sg_X9_fewestToThree_3, if_pos (by decide)]
  simp only [i32_l, i32_add]
  rw [sp0_side e I J B A1 h1 (by decide), mm_aft_v, sg_X9_fewestToThree_21, n1, mm_aft_n, sg_X9_fewestToThree_26, sg_X9_fewestToThree_3, if_pos (by decide)]
  simp only [i32_l, i32_add]
  rw [sp0_side e I J B A2 h2 (by decide), mm_aft_v, sg_X9_fewestToThree_21, o1, mm_aft_n, sg_X9_fewestToThree_26, sg_X9_fewestToThree_3, if_neg (by decide)]
  exact L (bN K R C) 0 none (by omega)
end
