/-! the class's score of a position -/
theorem and0_bit {a b : Nat} (h : a &&& b = 0) (i : Nat) : (a.testBit i && b.testBit i) = false := by rw [← Nat.testBit_and, h, Nat.zero_testBit]
theorem and0_of {a b : Nat} (h : ∀ i, (a.testBit i && b.testBit i) = false) : a &&& b = 0 := Nat.eq_of_testBit_eq (fun i => by rw [Nat.testBit_and, Nat.zero_testBit, h])
theorem and0_put {m h k : Nat} (hd : m &&& h = 0) (hk : h.testBit k = false) : h &&& (m ||| 2 ^ k) = 0 := by
  refine and0_of (fun i => ?_)
  have b := and0_bit hd i
  rw [Nat.testBit_or, Nat.testBit_two_pow]
  by_cases q : k = i
  · subst q; rw [hk]; rfl
  · rw [decide_eq_false q, Bool.or_false, Bool.and_comm]; exact b
theorem fr_put {E : Int64} {m h k : Nat} (hk : k < gn E) (h1 : m.testBit k = false) (h2 : h.testBit k = false) : fr E m h = fr E h (m ||| 2 ^ k) + 1 := by
  refine cf_add hk ?_ ?_ (fun c hc => ?_)
  · show (!h.testBit k && !(m ||| 2 ^ k).testBit k) = false
    rw [Nat.testBit_or, Nat.testBit_two_pow, decide_eq_true rfl, Bool.or_true]; simp
  · show (!m.testBit k && !h.testBit k) = true
    rw [h1, h2]; rfl
  · show (!h.testBit c && !(m ||| 2 ^ k).testBit c) = (!m.testBit c && !h.testBit c)
    rw [Nat.testBit_or, Nat.testBit_two_pow, decide_eq_false (fun z => hc z.symm), Bool.or_false, Bool.and_comm]
theorem or_lt512 {m k : Nat} (h : m < 512) (hk : k < 9) : m ||| 2 ^ k < 512 := Nat.or_lt_two_pow (n := 9) h (Nat.pow_lt_pow_right (by decide) hk)
theorem psn_put {E s : Int64} {m k : Nat} (hk : k < gn E) : s ||| spr E (m ||| 2 ^ k) (gn E) = s ||| spr E m (gn E) ||| mbit (gc E k) := by
  rw [spr_or, spr_one hk, or_assoc64]
/-- the empty cells of the position that is asked about -/
abbrev EH (N : Nat) (E s0 s1 : Int64) : Prop := ∀ c, mb E c = true ↔ (c < N ∧ mb s0 c = false ∧ mb s1 c = false)
theorem psn_f {N : Nat} {E s0 s1 : Int64} (hE : EH N E s0 s1) {c : Nat} (h : mb E c = true) (p : Nat) : mb (psn s0 s1 p) c = false := by
  unfold psn
  split
  · exact ((hE c).1 h).2.1
  · exact ((hE c).1 h).2.2
theorem mb_psn {N : Nat} {E s0 s1 : Int64} (hE : EH N E s0 s1) {m k : Nat} (hk : k < gn E) (p : Nat) : mb (psn s0 s1 p ||| spr E m (gn E)) (gc E k) = m.testBit k := by
  obtain ⟨g1, g2, g3⟩ := gc_spec hk
  rw [mb_or, psn_f hE g2, Bool.false_or, Bool.eq_iff_iff, spr_mem]
  constructor
  · rintro ⟨_, _, h⟩; rw [g3] at h; exact h
  · intro h; exact ⟨g1, g2, by rw [g3]; exact h⟩
theorem fre_gap {N : Nat} {E s0 s1 : Int64} (hE : EH N E s0 s1) {m h k : Nat} (hk : k < gn E) (t : Nat) : fre N (psn s0 s1 t ||| spr E m (gn E)) (psn s0 s1 (1 - t) ||| spr E h (gn E)) (gc E k) = (!m.testBit k && !h.testBit k) := by
  unfold fre
  rw [mb_psn hE hk, mb_psn hE hk]
  have : Nat.blt (gc E k) N = true := by rw [Nat.blt_eq]; exact ((hE _).1 (gc_spec hk).2.1).1
  rw [this, Bool.true_and]
theorem fre_E {N : Nat} {E s0 s1 : Int64} (hE : EH N E s0 s1) {t : Nat} (ht : t < 2) {a b : Int64} (c : Nat) (h : fre N (psn s0 s1 t ||| a) (psn s0 s1 (1 - t) ||| b) c = true) : mb E c = true := by
  unfold fre at h
  rw [mb_or, mb_or, Bool.and_eq_true, Bool.and_eq_true, Bool.not_eq_true', Bool.not_eq_true', Bool.or_eq_false_iff, Bool.or_eq_false_iff, Nat.blt_eq] at h
  obtain ⟨⟨h1, h2, _⟩, h3, _⟩ := h
  refine (hE c).2 ⟨h1, ?_⟩
  have : t = 0 ∨ t = 1 := by omega
  rcases this with q | q
  · subst q; exact ⟨h2, h3⟩
  · subst q; exact ⟨h3, h2⟩
theorem cf_two {p : Nat → Bool} {n j l : Nat} (hj : j < l) (hl : l < n) (h1 : p j = true) (h2 : p l = true) : 2 ≤ cf p n := by
  have a := cf_inj hj h1
  have b := cf_inj hl h2
  omega
theorem cf_one {p : Nat → Bool} {n l : Nat} (hl : l < n) (h2 : p l = true) : 1 ≤ cf p n := by
  have b := cf_inj hl h2
  omega
theorem scv_SR {K R C : Nat} {E s0 s1 : Int64} {tu m h t f : Nat} (ht : t < 2) (hf : fr E m h = f) (hp : t = (tu + (gn E - f)) % 2) : scv K R C E s0 s1 tu (if t = 0 then m else h) (if t = 0 then h else m) = SR K R C f t (psn s0 s1 t ||| spr E m (gn E)) (psn s0 s1 (1 - t) ||| spr E h (gn E)) := by
  have : t = 0 ∨ t = 1 := by omega
  rcases this with q | q
  · rw [if_pos q, if_pos q]
    unfold scv
    rw [hf, ← hp, q, SR_t0]
    rfl
  · rw [if_neg (by omega), if_neg (by omega)]
    unfold scv
    rw [fr_comm, hf, ← hp, q, SR_t1]
    rfl
def SCT (K R C : Nat) (E s0 s1 : Int64) (tu e : Nat) (I : Nat → Nat → Int32) (J : Nat → Nat → Int64) (B : Nat → Nat → Int64) (g : mm_F) (f : Nat) : Prop := ∀ (m h t d : Nat) (A : Nat → Nat → Int32), t < 2 → m < 512 → h < 512 → m &&& h = 0 → fr E m h = f → t = (tu + (gn E - f)) % 2 → d = gn E - f → jnB K R C t (psn s0 s1 t ||| spr E m (gn E)) = false → jnB K R C (1 - t) (psn s0 s1 (1 - t) ||| spr E h (gn E)) = false → BP K R C E s0 s1 tu I J A B → ∃ A', g [.ref 9, .int (i32 m), .int (i32 h), .int (i32 t), .int (i32 d)] (79, e, mm_R0, I, J, A, B) = some (.inl (some (.int (si (SR K R C f t (psn s0 s1 t ||| spr E m (gn E)) (psn s0 s1 (1 - t) ||| spr E h (gn E)))))), (79, e, mm_R0, I, J, A', B)) ∧ BP K R C E s0 s1 tu I J A' B ∧ F1 A A'
section
variable {K R C : Nat} {E s0 s1 : Int64} {tu : Nat} (e : Nat) (I : Nat → Nat → Int32) (J : Nat → Nat → Int64) (B : Nat → Nat → Int64)
theorem sp_scoreBehind {g : mm_F} {f : Nat} (hg : SCT K R C E s0 s1 tu e I J B g f) (A : Nat → Nat → Int32) (h : BP K R C E s0 s1 tu I J A B) {m h' t d k : Nat} (ht : t < 2) (hm : m < 512) (hh : h' < 512) (hd : m &&& h' = 0) (hk : k < gn E) (k1 : m.testBit k = false) (k2 : h'.testBit k = false) (hf : fr E m h' = f + 1) (hp : t = (tu + (gn E - (f + 1))) % 2) (hde : d = gn E - (f + 1)) (j2 : jnB K R C (1 - t) (psn s0 s1 (1 - t) ||| spr E h' (gn E)) = false) : ∃ A', f_X0_scoreBehind g [.ref 9, .int (i32 (m ||| 2 ^ k)), .int (i32 h'), .int (i32 t), .int (i32 d)] (79, e, mm_R0, I, J, A, B) = some (.inl (some (.int (si (bk (SR K R C f (1 - t) (psn s0 s1 (1 - t) ||| spr E h' (gn E)) (psn s0 s1 t ||| spr E m (gn E) ||| mbit (gc E k))))))), (79, e, mm_R0, I, J, A', B)) ∧ BP K R C E s0 s1 tu I J A' B ∧ F1 A A' := by
  have k9 : gn E ≤ 9 := h.2.1.1
  have hfl := fr_le E m h'
  have mk : m ||| 2 ^ k < 512 := or_lt512 hm (by omega)
  have tt : 1 - (1 - t) = t := by omega
  obtain ⟨A1, a1, a2, a3⟩ := sp_joins e I J B A h ht mk
  show ∃ A', (mm_do (mm_pr (tb_X0_scoreBehind g)) 6) _ _ = _ ∧ _
  rw [en_X0_scoreBehind, sg_X0_scoreBehind_0, a1, mm_aft_v, sg_X0_scoreBehind_6, psn_put hk]
  cases hj : jnB K R C t (psn s0 s1 t ||| spr E m (gn E) ||| mbit (gc E k)) with
  | true =>
    refine ⟨A1, ?_, a2, a3⟩
    rw [if_neg (by decide), SR_j (by omega) j2 (by rw [tt]; exact hj)]
    rfl
  | false =>
    have hd2 : h' &&& (m ||| 2 ^ k) = 0 := and0_put hd k2
    have hf2 : fr E h' (m ||| 2 ^ k) = f := by have := fr_put hk k1 k2; omega
    obtain ⟨A2, b1, b2, b3⟩ := hg h' (m ||| 2 ^ k) (1 - t) (d + 1) A1 (by omega) hh mk hd2 hf2 (by omega) (by omega) j2 (by rw [tt, psn_put hk]; exact hj) a2
    refine ⟨A2, ?_, b2, a3.tr b3⟩
    rw [tt, psn_put hk] at b1
    rw [if_pos (show bi false = 0 from rfl)]
    simp only [i32_l]
    rw [i32_sub (by omega), i32_add, b1, mm_aft_v, sg_X0_scoreBehind_25]
    have zb := SR_bd (K := K) (R := R) (C := C) f (1 - t) (psn s0 s1 (1 - t) ||| spr E h' (gn E)) (psn s0 s1 t ||| spr E m (gn E) ||| mbit (gc E k))
    generalize SR K R C f (1 - t) (psn s0 s1 (1 - t) ||| spr E h' (gn E)) (psn s0 s1 t ||| spr E m (gn E) ||| mbit (gc E k)) = z at zb ⊢
    have e1 : (1 : Int32) - si z = si (1 - z) := by rw [show (1 : Int32) = si 1 by decide, si_sub]
    have e2 : (-1 : Int32) - si z = si (-1 - z) := by rw [show (-1 : Int32) = si (-1) by decide, si_sub]
    have c : ((0 : Int32) < si z) ↔ 0 < z := by rw [show (0 : Int32) = si 0 by decide, si_lt (by decide) (by decide) (by omega) (by omega)]
    unfold bk
    by_cases q : 0 < z
    · rw [if_pos (c.2 q), if_pos q, sg_X0_scoreBehind_43, e1]
    · rw [if_neg (fun y => q (c.1 y)), if_neg q, sg_X0_scoreBehind_43, e2]
end
