/-! the class's score: its two loops, what it keeps -/
section
variable {K R C : Nat} {E s0 s1 : Int64} {tu : Nat} (e : Nat) (I : Nat → Nat → Int32) (J : Nat → Nat → Int64) (B : Nat → Nat → Int64)
theorem full_bit {n m h k : Nat} (hk : k < n) : (ndf (2 ^ n - 1) (m ||| h)).testBit k = (!m.testBit k && !h.testBit k) := by
  rw [tb_ndf, Nat.testBit_two_pow_sub_one, decide_eq_true hk, Nat.testBit_or]
  cases m.testBit k <;> cases h.testBit k <;> rfl
theorem ndf_lt {a b n : Nat} (h : a < 2 ^ n) : ndf a b < 2 ^ n := Nat.xor_lt_two_pow h (Nat.lt_of_le_of_lt Nat.and_le_left h)
theorem ndf_lt512 {n b : Nat} (h : n ≤ 9) : ndf (2 ^ n - 1) b < 512 := by
  have p : 2 ^ n ≤ 2 ^ 9 := Nat.pow_le_pow_right (by decide) h
  have q : 0 < 2 ^ n := Nat.pow_pos (by decide)
  exact ndf_lt (n := 9) (by omega)
theorem sp_score_1 {g : mm_F} {m h t d key fm : Nat} (ht : t < 2) (hm : m < 512) (hk9 : gn E ≤ 9) (hfm : fm < 512) (hfb : ∀ k, k < gn E → fm.testBit k = (!m.testBit k && !h.testBit k)) : ∀ (dd k : Nat) (A : Nat → Nat → Int32), k + dd = gn E → BP K R C E s0 s1 tu I J A B → (∀ j, j < k → (!m.testBit j && !h.testBit j) = true → jnB K R C t (psn s0 s1 t ||| spr E m (gn E) ||| mbit (gc E j)) = false) → ∃ (A' : Nat → Nat → Int32) (T : Int) (k' : Int32), mm_run (mm_pr (tb_X0_score g)) (92, [some (.ref 9), some (.int (i32 m)), some (.int (i32 h)), some (.int (i32 t)), some (.int (i32 d)), some (.int (i32 key)), some (.int (i32 fm)), some (.int (si (-100))), some (.int (i32 k))], [], (79, e, mm_R0, I, J, A, B)) = mm_run (mm_pr (tb_X0_score g)) (151, [some (.ref 9), some (.int (i32 m)), some (.int (i32 h)), some (.int (i32 t)), some (.int (i32 d)), some (.int (i32 key)), some (.int (i32 fm)), some (.int (si T)), some (.int k')], [], (79, e, mm_R0, I, J, A', B)) ∧ BP K R C E s0 s1 tu I J A' B ∧ F1 A A' ∧ ((T = -100 ∧ ∀ j, j < gn E → (!m.testBit j && !h.testBit j) = true → jnB K R C t (psn s0 s1 t ||| spr E m (gn E) ||| mbit (gc E j)) = false) ∨ (T = 99 ∧ ∃ j, j < gn E ∧ (!m.testBit j && !h.testBit j) = true ∧ jnB K R C t (psn s0 s1 t ||| spr E m (gn E) ||| mbit (gc E j)) = true)) := by
  intro dd
  induction dd with
  | zero =>
    intro k A hk hb hj
    have hc : I 10 2 = i32 (gn E) := hb.2.1.2.1
    refine ⟨A, -100, i32 k, ?_, hb, fun _ _ _ => rfl, Or.inl ⟨rfl, fun j h1 h2 => hj j (by omega) h2⟩⟩
    rw [sg_X0_score_92, hc, if_neg (by rw [i32_lt (by omega) (by omega)]; omega)]
  | succ dd ih =>
    intro k A hk hb hj
    have hc : I 10 2 = i32 (gn E) := hb.2.1.2.1
    have c1 : si (-100) < (99 : Int32) := by decide
    rw [sg_X0_score_92, hc, if_pos (by rw [i32_lt (by omega) (by omega)]; omega), if_pos c1, sp_has _ _ (by omega), mm_aft_v, mb_i32 (by omega), hfb k (by omega), sg_X0_score_119]
    cases hp : (!m.testBit k && !h.testBit k) with
    | false =>
      obtain ⟨A', T, k', a1, a2⟩ := ih (k + 1) A (by omega) hb (fun j h1 h2 => by
        by_cases q : j = k
        · subst q; rw [hp] at h2; cases h2
        · exact hj j (by omega) h2)
      refine ⟨A', T, k', ?_, a2⟩
      rw [← a1, if_pos (show bi false = 0 from rfl), sg_X0_score_141, sg_X0_score_143]
      simp only [i32_l, i32_add]
    | true =>
      have mk : m ||| 2 ^ k < 512 := or_lt512 hm (by omega)
      obtain ⟨A1, b1, b2, b3⟩ := sp_joins e I J B A hb ht mk
      rw [psn_put (by omega)] at b1
      rw [if_neg (show ¬ bi true = 0 by decide)]
      simp only [i32_l]
      rw [i32_shl (by omega), i32_or, b1, mm_aft_v, sg_X0_score_133]
      cases hq : jnB K R C t (psn s0 s1 t ||| spr E m (gn E) ||| mbit (gc E k)) with
      | false =>
        obtain ⟨A', T, k', a1, a2, a3, a4⟩ := ih (k + 1) A1 (by omega) b2 (fun j h1 h2 => by
          by_cases q : j = k
          · subst q; exact hq
          · exact hj j (by omega) h2)
        refine ⟨A', T, k', ?_, a2, b3.tr a3, a4⟩
        rw [← a1, if_pos (show bi false = 0 from rfl), sg_X0_score_141, sg_X0_score_143]
        simp only [i32_l, i32_add]
      | true =>
        refine ⟨A1, 99, i32 (k + 1), ?_, b2, b3, Or.inr ⟨rfl, k, by omega, hp, hq⟩⟩
        have c2 : ¬ ((99 : Int32) < (99 : Int32)) := by decide
        rw [if_neg (show ¬ bi true = 0 by decide), sg_X0_score_143, sg_X0_score_92, hc]
        have e1 : i32 k + 1 = i32 (k + 1) := i32_add k 1
        have e2 : (99 : Int32) = si 99 := by decide
        rw [if_neg c2, ite_self, e1, e2]
theorem sp_score_2 {g : mm_F} {f : Nat} (hg : ∀ f', f = f' + 1 → SCT K R C E s0 s1 tu e I J B g f') {m h t d key fm : Nat} (ht : t < 2) (hm : m < 512) (hh : h < 512) (hd : m &&& h = 0) (hk9 : gn E ≤ 9) (hE : EH (bN K R C) E s0 s1) (hfm : fm < 512) (hfb : ∀ k, k < gn E → fm.testBit k = (!m.testBit k && !h.testBit k)) (hf : fr E m h = f) (hpt : t = (tu + (gn E - f)) % 2) (hde : d = gn E - f) (j1 : jnB K R C t (psn s0 s1 t ||| spr E m (gn E)) = false) (j2 : jnB K R C (1 - t) (psn s0 s1 (1 - t) ||| spr E h (gn E)) = false) (hni : ∀ j, j < gn E → (!m.testBit j && !h.testBit j) = true → jnB K R C t (psn s0 s1 t ||| spr E m (gn E) ||| mbit (gc E j)) = false) (v : Nat → Int) (hv : ∀ f', f = f' + 1 → ∀ k, v k = bk (SR K R C f' (1 - t) (psn s0 s1 (1 - t) ||| spr E h (gn E)) (psn s0 s1 t ||| spr E m (gn E) ||| mbit (gc E k)))) : ∀ (dd k : Nat) (A : Nat → Nat → Int32), k + dd = gn E → BP K R C E s0 s1 tu I J A B → ∃ (A' : Nat → Nat → Int32) (k' : Int32), mm_run (mm_pr (tb_X0_score g)) (154, [some (.ref 9), some (.int (i32 m)), some (.int (i32 h)), some (.int (i32 t)), some (.int (i32 d)), some (.int (i32 key)), some (.int (i32 fm)), some (.int (si (tp (fun k => !m.testBit k && !h.testBit k) v k))), some (.int (i32 k))], [], (79, e, mm_R0, I, J, A, B)) = mm_run (mm_pr (tb_X0_score g)) (211, [some (.ref 9), some (.int (i32 m)), some (.int (i32 h)), some (.int (i32 t)), some (.int (i32 d)), some (.int (i32 key)), some (.int (i32 fm)), some (.int (si (tp (fun k => !m.testBit k && !h.testBit k) v (gn E)))), some (.int k')], [], (79, e, mm_R0, I, J, A', B)) ∧ BP K R C E s0 s1 tu I J A' B ∧ F1 A A' := by
  intro dd
  have fpos : ∀ k, k < gn E → (!m.testBit k && !h.testBit k) = true → ∃ f', f = f' + 1 := by
    intro k hk hp
    have := cf_one (p := fun k => !m.testBit k && !h.testBit k) hk hp
    have e1 : fr E m h = cf (fun k => !m.testBit k && !h.testBit k) (gn E) := rfl
    exact ⟨f - 1, by omega⟩
  have vb : ∀ k, k < gn E → (!m.testBit k && !h.testBit k) = true → -99 ≤ v k ∧ v k ≤ 99 := by
    intro k hk hp
    obtain ⟨f', hf'⟩ := fpos k hk hp
    rw [hv f' hf' k]
    have b := SR_bd (K := K) (R := R) (C := C) f' (1 - t) (psn s0 s1 (1 - t) ||| spr E h (gn E)) (psn s0 s1 t ||| spr E m (gn E) ||| mbit (gc E k))
    exact bk_bd b.1 b.2
  have tb : ∀ k, k ≤ gn E → -100 ≤ tp (fun k => !m.testBit k && !h.testBit k) v k ∧ tp (fun k => !m.testBit k && !h.testBit k) v k ≤ 99 := fun k hk => ⟨tp_lo, tp_le (by decide) (fun c h1 h2 => (vb c (by omega) h2).2)⟩
  induction dd with
  | zero =>
    intro k A hk hb
    have hc : I 10 2 = i32 (gn E) := hb.2.1.2.1
    have : k = gn E := by omega
    refine ⟨A, i32 k, ?_, hb, fun _ _ _ => rfl⟩
    rw [sg_X0_score_154, hc, if_neg (by rw [i32_lt (by omega) (by omega)]; omega), this]
  | succ dd ih =>
    intro k A hk hb
    have hc : I 10 2 = i32 (gn E) := hb.2.1.2.1
    have tbk := tb k (by omega)
    have c97 : (si (tp (fun k => !m.testBit k && !h.testBit k) v k) < (97 : Int32)) ↔ tp (fun k => !m.testBit k && !h.testBit k) v k < 97 := by
      rw [show (97 : Int32) = si 97 by decide, si_lt (by omega) (by omega) (by decide) (by decide)]
    rw [sg_X0_score_154, hc, if_pos (by rw [i32_lt (by omega) (by omega)]; omega)]
    by_cases q97 : tp (fun k => !m.testBit k && !h.testBit k) v k < 97
    · rw [if_pos (c97.2 q97), sp_has _ _ (by omega), mm_aft_v, mb_i32 (by omega), hfb k (by omega), sg_X0_score_181]
      cases hp : (!m.testBit k && !h.testBit k) with
      | false =>
        obtain ⟨A', k', a1, a2⟩ := ih (k + 1) A (by omega) hb
        rw [tp_f (p := fun k => !m.testBit k && !h.testBit k) hp] at a1
        refine ⟨A', k', ?_, a2⟩
        rw [← a1, if_pos (show bi false = 0 from rfl), sg_X0_score_205]
        simp only [i32_l, i32_add]
      | true =>
        obtain ⟨f', hf'⟩ := fpos k (by omega) hp
        have hp2 : m.testBit k = false ∧ h.testBit k = false := by
          cases q1 : m.testBit k <;> cases q2 : h.testBit k <;> simp [q1, q2] at hp ⊢
        subst hf'
        obtain ⟨A1, b1, b2, b3⟩ := sp_scoreBehind e I J B (hg f' rfl) A hb ht hm hh hd (by omega : k < gn E) hp2.1 hp2.2 hf hpt hde j2
        rw [← hv f' rfl k] at b1
        obtain ⟨A', k', a1, a2, a3⟩ := ih (k + 1) A1 (by omega) b2
        rw [tp_t (p := fun k => !m.testBit k && !h.testBit k) hp] at a1
        refine ⟨A', k', ?_, a2, b3.tr a3⟩
        have vk := vb k (by omega) hp
        rw [← a1, if_neg (show ¬ bi true = 0 by decide)]
        simp only [i32_l]
        rw [i32_shl (by omega), i32_or, b1, mm_aft_v, sg_X0_score_200, sp_max, mm_aft_v, sg_X0_score_203, sg_X0_score_205]
        have mx : (if si (tp (fun k => !m.testBit k && !h.testBit k) v k) < si (v k) then si (v k) else si (tp (fun k => !m.testBit k && !h.testBit k) v k)) = si (max (tp (fun k => !m.testBit k && !h.testBit k) v k) (v k)) := by
          by_cases q : tp (fun k => !m.testBit k && !h.testBit k) v k < v k
          · rw [if_pos ((si_lt (by omega) (by omega) (by omega) (by omega)).2 q), Int.max_eq_right (by omega)]
          · rw [if_neg (fun z => q ((si_lt (by omega) (by omega) (by omega) (by omega)).1 z)), Int.max_eq_left (by omega)]
        rw [mx]
        simp only [i32_l, i32_add]
    · refine ⟨A, i32 k, ?_, hb, fun _ _ _ => rfl⟩
      rw [if_neg (fun z => q97 (c97.1 z))]
      have st : tp (fun k => !m.testBit k && !h.testBit k) v (gn E) = tp (fun k => !m.testBit k && !h.testBit k) v k := by
        refine tp_stop (by omega) (by omega) (fun l l1 l2 l3 c c1 c2 => ?_)
        rcases tp_att (p := fun k => !m.testBit k && !h.testBit k) (v := v) (n := k) with z | ⟨j, z1, z2, z3⟩
        · omega
        · have two := cf_two (p := fun k => !m.testBit k && !h.testBit k) (show j < l by omega) l2 z2 l3
          have e1 : fr E m h = cf (fun k => !m.testBit k && !h.testBit k) (gn E) := rfl
          obtain ⟨f', hf'⟩ : ∃ f', f = f' + 1 + 1 := ⟨f - 2, by omega⟩
          rw [hv (f' + 1) hf' c]
          obtain ⟨o, o1, o2, o3⟩ : ∃ o, o < gn E ∧ o ≠ c ∧ (!m.testBit o && !h.testBit o) = true := by
            by_cases y : j = c
            · exact ⟨l, l2, by omega, l3⟩
            · exact ⟨j, by omega, y, z2⟩
          have hnc := hni c c1 c2
          have go := gc_spec o1
          refine SR_cut (d := gc E o) ht hnc j2 go.1 ?_
          have fo := fre_gap hE (m := m) (h := h) o1 t
          rw [o3] at fo
          unfold fre at fo ⊢
          have gcs := gc_spec c1
          have ne : ¬ gc E c = gc E o := fun z => o2 (gc_inj c1 o1 z).symm
          rw [mb_or _ (mbit (gc E c)), mb_bit _ _ (by omega), decide_eq_false ne, Bool.or_false]
          exact fo
      rw [st]
theorem tp_none {p : Nat → Bool} {v : Nat → Int} {n : Nat} (h : cf p n = 0) : tp p v n = -100 := by
  rcases tp_att (p := p) (v := v) (n := n) with q | ⟨c, c1, c2, _⟩
  · exact q
  · have := cf_one c1 c2; omega
theorem SR_tp {f m h t : Nat} (hE : EH (bN K R C) E s0 s1) (ht : t < 2) (hf : fr E m h = f) (j1 : jnB K R C t (psn s0 s1 t ||| spr E m (gn E)) = false) (j2 : jnB K R C (1 - t) (psn s0 s1 (1 - t) ||| spr E h (gn E)) = false) (v : Nat → Int) (hv : ∀ f', f = f' + 1 → ∀ k, v k = bk (SR K R C f' (1 - t) (psn s0 s1 (1 - t) ||| spr E h (gn E)) (psn s0 s1 t ||| spr E m (gn E) ||| mbit (gc E k)))) : SR K R C f t (psn s0 s1 t ||| spr E m (gn E)) (psn s0 s1 (1 - t) ||| spr E h (gn E)) = tp (fun k => !m.testBit k && !h.testBit k) v (gn E) := by
  cases f with
  | zero => rw [SR_0 ht j1 j2, tp_none hf]
  | succ f' =>
    rw [SR_nj ht j1 j2, tp_gap (E := E) (fun c hc => fre_E hE ht c hc) 36 (Nat.le_refl _)]
    exact tp_congr (fun k hk => fre_gap hE hk t) (fun k hk _ => (hv f' rfl k).symm)
end
