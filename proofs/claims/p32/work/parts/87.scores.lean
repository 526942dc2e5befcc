/-! the class's score, put together -/
section
variable {K R C : Nat} {E s0 s1 : Int64} {tu : Nat} (e : Nat) (I : Nat → Nat → Int32) (J : Nat → Nat → Int64) (B : Nat → Nat → Int64)
theorem sp_score_s {g : mm_F} {f : Nat} (hE : EH (bN K R C) E s0 s1) (hg : ∀ f', f = f' + 1 → SCT K R C E s0 s1 tu e I J B g f') : SCT K R C E s0 s1 tu e I J B (mm_do (mm_pr (tb_X0_score g)) 9) f := by
  intro m h t d A ht hm hh hd hf hpt hde j1 j2 hb
  have k9 : gn E ≤ 9 := hb.2.1.1
  have hT : ∀ a, a < 512 → A 12 a = i32 (ter a) := hb.2.2.1
  have hfl := fr_le E m h
  have hd' : h &&& m = 0 := by rw [Nat.and_comm]; exact hd
  obtain ⟨key, hkey⟩ : ∃ key, key = (if t = 0 then cd m h else cd h m) := ⟨_, rfl⟩
  have keyb : key < 19683 := by
    rw [hkey]
    split
    · exact cd_lt hd
    · exact cd_lt hd'
  have hs := scv_SR (K := K) (R := R) (C := C) (E := E) (s0 := s0) (s1 := s1) ht hf hpt
  obtain ⟨z, hz⟩ : ∃ z, z = SR K R C f t (psn s0 s1 t ||| spr E m (gn E)) (psn s0 s1 (1 - t) ||| spr E h (gn E)) := ⟨_, rfl⟩
  have zb : -100 ≤ z ∧ z ≤ 100 := by rw [hz]; exact SR_bd _ _ _ _
  have t01 : t = 0 ∨ t = 1 := by omega
  have st : mm_run (mm_pr (tb_X0_score g)) (0, [some (.ref 9), some (.int (i32 m)), some (.int (i32 h)), some (.int (i32 t)), some (.int (i32 d)), none, none, none, none], [], (79, e, mm_R0, I, J, A, B)) = mm_run (mm_pr (tb_X0_score g)) (25, [some (.ref 9), some (.int (i32 m)), some (.int (i32 h)), some (.int (i32 t)), some (.int (i32 d)), none, none, none, none], [.int (i32 key)], (79, e, mm_R0, I, J, A, B)) := by
    rcases t01 with q | q
    · subst q
      rw [sg_X0_score_0, if_pos (show i32 0 = 0 from rfl), sp_pair_10 e I J A B hT hm hh hd, mm_aft_v, sg_X0_score_13, hkey, if_pos rfl]
    · subst q
      rw [sg_X0_score_0, if_neg (show ¬ i32 1 = 0 by decide), sp_pair_10 e I J A B hT hh hm hd', mm_aft_v, hkey, if_neg (by decide)]
  have mem : ∀ A, BP K R C E s0 s1 tu I J A B → A 14 key = i32 0 ∨ A 14 key = si z := by
    intro A hb
    have m2 : msc K R C E s0 s1 tu A := hb.2.2.2.2.2.2.2
    rw [hz, ← hs, hkey]
    rcases t01 with q | q
    · rw [if_pos q, if_pos q, if_pos q]; exact m2 m h hm hh hd
    · rw [if_neg (by omega), if_neg (by omega), if_neg (by omega)]; exact m2 h m hh hm hd'
  have sto : ∀ A, BP K R C E s0 s1 tu I J A B → BP K R C E s0 s1 tu I J (mm_up A 14 key (si z)) B ∧ F1 A (mm_up A 14 key (si z)) := by
    intro A hb
    have m1 : mjn K R C E s0 s1 A := hb.2.2.2.2.2.2.1
    have m2 : msc K R C E s0 s1 tu A := hb.2.2.2.2.2.2.2
    have f1 : F1 A (mm_up A 14 key (si z)) := fun i _ a2 => mm_up_row _ _ _ _ _ a2
    refine ⟨hb.fr f1 (fun p a hp ha => ?_) (fun a b ha hb' hab => ?_), f1⟩
    · rw [mm_up_row _ _ _ _ _ (by decide)]; exact m1 p a hp ha
    · by_cases q : cd a b = key
      · right
        rw [q, mm_up_eq, hz, ← hs]
        rw [hkey] at q
        rcases t01 with w | w
        · rw [if_pos w] at q
          obtain ⟨q1, q2⟩ := cd_inj ha hb' hm hh hab hd q
          rw [if_pos w, if_pos w, q1, q2]
        · rw [if_neg (by omega)] at q
          obtain ⟨q1, q2⟩ := cd_inj ha hb' hh hm hab hd' q
          rw [if_neg (by omega), if_neg (by omega), q1, q2]
      · rw [mm_up_ne2 _ _ _ _ _ _ q]; exact m2 a b ha hb' hab
  have fin : ∀ (A1 : Nat → Nat → Int32) (k' : Int32) (fm : Nat), BP K R C E s0 s1 tu I J A1 B → F1 A A1 → ∃ A', mm_run (mm_pr (tb_X0_score g)) (211, [some (.ref 9), some (.int (i32 m)), some (.int (i32 h)), some (.int (i32 t)), some (.int (i32 d)), some (.int (i32 key)), some (.int (i32 fm)), some (.int (si z)), some (.int k')], [], (79, e, mm_R0, I, J, A1, B)) = some (.inl (some (.int (si z))), (79, e, mm_R0, I, J, A', B)) ∧ BP K R C E s0 s1 tu I J A' B ∧ F1 A A' := by
    intro A1 k' fm b1 b2
    refine ⟨mm_up A1 14 key (si z), ?_, (sto A1 b1).1, b2.tr (sto A1 b1).2⟩
    rw [sg_X0_score_211, if_pos ((i32_in (by omega)).2 (by omega)), i32_ix (by omega), si_byte zb.1 zb.2]
  rw [en_X0_score, st, sg_X0_score_25, ← hz]
  simp (disch := omega) only [i32_l, iN_l, i32_add, i32_mul, i32_r0, i32_r1, run_bi, run_bi', i32_sub, decide_eq_true_eq, bi_rt, bi_em, bi_0, bi_1, i32_lt, i32_eq, iN_ne, iN_lt, iN_nlt, i32_ix, i32_in,  mm_aft_v, mm_aft_n, mm_aft_x, if_pos, if_neg, ite_true, ite_false, if_true, if_false, not_false_eq_true, not_true_eq_false]
  by_cases c : A 14 key = i32 0
  · rw [if_pos c, sp_full_10 e I J A B hb.2.1, mm_aft_v, sg_X0_score_77]
    have e1 : i32 (2 ^ gn E - 1) &&& ((i32 m ||| i32 h) ^^^ (-1 : Int32)) = i32 (ndf (2 ^ gn E - 1) (m ||| h)) := by rw [i32_or]; exact i32_ndf _ _
    rw [e1, show (-100 : Int32) = si (-100) by decide]
    obtain ⟨A1, T, k', a1, a2, a3, a4⟩ := sp_score_1 e I J B (g := g) (h := h) (d := d) (key := key) ht hm k9 (ndf_lt512 k9) (fun k hk => full_bit hk) (gn E) 0 A (by omega) hb (fun j hj => absurd hj (Nat.not_lt_zero _))
    have hv : ∀ f', f = f' + 1 → ∀ k, (fun k => bk (SR K R C (f - 1) (1 - t) (psn s0 s1 (1 - t) ||| spr E h (gn E)) (psn s0 s1 t ||| spr E m (gn E) ||| mbit (gc E k)))) k = bk (SR K R C f' (1 - t) (psn s0 s1 (1 - t) ||| spr E h (gn E)) (psn s0 s1 t ||| spr E m (gn E) ||| mbit (gc E k))) := by
      intro f' hf' k; subst hf'; rfl
    have zt := SR_tp hE ht hf j1 j2 _ hv
    rw [← hz] at zt
    rcases a4 with ⟨T1, ni⟩ | ⟨T9, j, hj1, hj2, hj3⟩
    · subst T1
      obtain ⟨A2, k2, b1, b2, b3⟩ := sp_score_2 e I J B hg (key := key) ht hm hh hd k9 hE (ndf_lt512 k9) (fun k hk => full_bit hk) hf hpt hde j1 j2 ni _ hv (gn E) 0 A1 (by omega) a2
      rw [← zt] at b1
      obtain ⟨A3, c1, c2⟩ := fin A2 k2 _ b2 (a3.tr b3)
      refine ⟨A3, a1.trans ?_, c2⟩
      rw [sg_X0_score_151]
      exact Eq.trans b1 c1
    · subst T9
      obtain ⟨A3, c1, c2⟩ := fin A1 0 (ndf (2 ^ gn E - 1) (m ||| h)) a2 a3
      have z99 : z = 99 := by
        have hp := cf_one (p := fun k => !m.testBit k && !h.testBit k) hj1 hj2
        have e2 : fr E m h = cf (fun k => !m.testBit k && !h.testBit k) (gn E) := rfl
        have l1 : z ≤ 99 := by rw [hz]; exact SR_99 ht j1 j2
        have l2 : (99 : Int) ≤ z := by
          rw [zt]
          refine Int.le_trans ?_ (tp_ge (p := fun k => !m.testBit k && !h.testBit k) hj1 hj2)
          rw [SR_j (by omega) j2 (by rw [show 1 - (1 - t) = t by omega]; exact hj3)]
          decide
        omega
      refine ⟨A3, a1.trans ?_, c2⟩
      rw [sg_X0_score_151, sg_X0_score_154, if_neg (show ¬ si 99 < (97 : Int32) by decide), ite_self, ← z99]
      exact c1
  · rw [if_neg c]
    exact ⟨A, by rw [(mem A hb).resolve_left c], hb, fun _ _ _ => rfl⟩
theorem sp_score (hE : EH (bN K R C) E s0 s1) : ∀ f N, f < N → SCT K R C E s0 s1 tu e I J B (f_X0_score N) f := by
  intro f
  induction f with
  | zero =>
    intro N hN
    obtain ⟨N', rfl⟩ : ∃ N', N = N' + 1 := ⟨N - 1, by omega⟩
    exact sp_score_s e I J B hE (fun f' h => by omega)
  | succ f ih =>
    intro N hN
    obtain ⟨N', rfl⟩ : ∃ N', N = N' + 1 := ⟨N - 1, by omega⟩
    exact sp_score_s e I J B hE (fun f' h => by
      have : f' = f := by omega
      subst this
      exact ih N' (by omega))
end
