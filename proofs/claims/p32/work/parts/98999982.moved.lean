/-! moves, the swap, undoing: what they make of the words -/
section
variable {K R C : Nat} {lg : Nat → Nat} {m : Nat} {sw : Bool} {ea : Nat} {tk : Bool} {se pe us : Nat → Nat} {lo : Nat} {rc : Bool} {t : Nat} {tp : Nat → Nat} {pn : Nat} {ln : Nat → Nat} {tx : Nat → Nat → Nat} {n : Nat} {ra : Nat → Int} {pl wo ls : Nat → Nat} {c : Nat}
theorem aS_lgp {d j p : Nat} (hj : j ≤ m) : aS (lgp lg m d) sw j p = aS lg sw j p := stN_congr _ p j (fun i hi => by unfold lgp; rw [if_neg (by omega)])
theorem sN_put {d p : Nat} (hs : sw = true → 2 ≤ m) : sN (lgp lg m d) (m + 1) sw p = pt (m % 2) p d (sN lg m sw p) := by
  have h := aS_s (lg := lgp lg m d) (sw := sw) (n := m) (p := p) (by rintro ⟨a, b⟩; have := hs a; omega)
  rw [aS_lgp (Nat.le_refl m), show lgp lg m d m = d by unfold lgp; rw [if_pos rfl]] at h
  exact h
theorem jnd_no {s0 s1 : Int64} : jnd K R C s0 s1 = iN ↔ nj K R C s0 s1 := by
  unfold jnd nj
  cases jnB K R C 0 s0 <;> cases jnB K R C 1 s1 <;> simp <;> decide
theorem jnd_cases (s0 s1 : Int64) : (jnd K R C s0 s1 = i32 0 ∧ jnB K R C 0 s0 = true) ∨ (jnd K R C s0 s1 = i32 1 ∧ jnB K R C 0 s0 = false ∧ jnB K R C 1 s1 = true) ∨ (jnd K R C s0 s1 = iN ∧ nj K R C s0 s1) := by
  unfold jnd nj
  cases h0 : jnB K R C 0 s0 with
  | true => exact Or.inl ⟨rfl, rfl⟩
  | false =>
    cases h1 : jnB K R C 1 s1 with
    | true => exact Or.inr (Or.inl ⟨rfl, rfl, rfl⟩)
    | false => exact Or.inr (Or.inr ⟨rfl, rfl, rfl⟩)
/-- who has won behind a move: nobody, or the one who moved -/
theorem wnr_put {d : Nat} (w : WG K R C lg m sw) (hw : wnr K R C lg m sw 0 = iN) : wnr K R C (lgp lg m d) (m + 1) sw 0 = iN ∨ wnr K R C (lgp lg m d) (m + 1) sw 0 = i32 (m % 2) := by
  have h := jnd_no.1 ((wnr_lo (by decide) hw).2)
  unfold wnr
  rw [if_pos rfl, sN_put w.2.2.2, sN_put w.2.2.2]
  rcases (show m % 2 = 0 ∨ m % 2 = 1 by omega) with q | q
  · rw [q]
    have e : pt 0 1 d (sN lg m sw 1) = sN lg m sw 1 := by unfold pt; rw [if_neg (by decide)]
    rcases jnd_cases (K := K) (R := R) (C := C) (pt 0 0 d (sN lg m sw 0)) (pt 0 1 d (sN lg m sw 1)) with ⟨a, _⟩ | ⟨_, _, b⟩ | ⟨a, _⟩
    · exact Or.inr a
    · rw [e, h.2] at b; cases b
    · exact Or.inl a
  · rw [q]
    have e : pt 1 0 d (sN lg m sw 0) = sN lg m sw 0 := by unfold pt; rw [if_neg (by decide)]
    rcases jnd_cases (K := K) (R := R) (C := C) (pt 1 0 d (sN lg m sw 0)) (pt 1 1 d (sN lg m sw 1)) with ⟨_, b⟩ | ⟨a, _⟩ | ⟨a, _⟩
    · rw [e, h.1] at b; cases b
    · exact Or.inr a
    · exact Or.inl a
theorem bx_move (hb : BXd K R C lg m sw ea tk se pe us lo rc t tp pn ln tx n ra pl wo ls c) {d : Nat} (he : mb (emp (bN K R C) (sN lg m sw 0) (sN lg m sw 1)) d = true) (hw : wnr K R C lg m sw lo = iN) : BXd K R C (lgp lg m d) (m + 1) sw ea tk se pe (upN us (m % 2) 0) lo rc t tp pn ln tx n ra pl wo ls c := by
  obtain ⟨b1, b2, b3, b4, b5, b6, b7, b8, b9⟩ := hb
  obtain ⟨l0, hj⟩ := wnr_lo b2.1 hw
  refine ⟨(b1.put he).1, b2.give _, b3, b4, b5, fun j hj2 => ?_, b7, fun z => absurd hw (b8 z), b9⟩
  rw [aS_lgp (by omega), aS_lgp (by omega)]
  by_cases q : j = m
  · rw [q]; exact hj
  · exact b6 j (by omega)
theorem sN_sw2 {d p : Nat} : sN (lgp lg 1 d) 2 true p = (if p = 1 then mbit d else 0) := by
  have h := stN_put lg 1 p 1 d
  have k : kf true 2 = 1 := kf_t (by decide)
  show stN (lgp lg 1 d) (kf true 2) p (1 + 1) = _
  rw [k, h, stN_f lg p (Nat.le_refl 1)]
  by_cases q : p = 1
  · rw [if_pos q, if_pos ⟨Nat.le_refl _, q.symm⟩]
    apply mb_ext; intro x _; rw [mb_or, mb_zero, Bool.false_or]
  · rw [if_neg q, if_neg (fun z => q z.2.symm)]
    apply mb_ext; intro x _; rw [mb_or, mb_zero]; rfl
theorem bx_swap (hb : BXd K R C lg 1 sw ea tk se pe us lo rc t tp pn ln tx n ra pl wo ls c) (hw : wnr K R C lg 1 sw lo = iN) : BXd K R C (lgp lg 1 (mirB K R C (lg 0))) 2 true ea tk se pe (upN us 1 0) lo rc t tp pn ln tx n ra pl wo ls c := by
  obtain ⟨b1, b2, b3, b4, b5, b6, b7, b8, b9⟩ := hb
  obtain ⟨l0, hj⟩ := wnr_lo b2.1 hw
  refine ⟨b1.swap.1, b2.give _, b3, b4, b5, fun j hj2 => ?_, b7, fun z => absurd hw (b8 z), b9⟩
  have e : ∀ p, aS (lgp lg 1 (mirB K R C (lg 0))) true j p = stN lg 0 p j := fun p => by
    have k : kf true j = 0 := kf_n (by omega)
    show stN _ (kf true j) p j = _
    rw [k]
    exact stN_congr _ p j (fun i hi => by unfold lgp; rw [if_neg (by omega)])
  rw [e, e]
  rcases (show j = 0 ∨ j = 1 by omega) with q | q
  · have := b6 0 (by decide)
    have k : kf sw 0 = 0 := kf_n (by omega)
    rw [q]
    show jnd K R C (stN lg 0 0 0) (stN lg 0 1 0) = iN
    have this : jnd K R C (stN lg (kf sw 0) 0 0) (stN lg (kf sw 0) 1 0) = iN := this
    rw [k] at this
    exact this
  · have k : kf sw 1 = 0 := kf_n (by omega)
    rw [q]
    have hj : jnd K R C (stN lg (kf sw 1) 0 1) (stN lg (kf sw 1) 1 1) = iN := hj
    rw [k] at hj
    exact hj
theorem kf_swB {j : Nat} (hj : j ≤ m - 1) : kf (swB sw m) j = kf sw j := by
  unfold kf swB
  cases sw with
  | false => rfl
  | true =>
    rw [Bool.true_and, Bool.true_and]
    by_cases q : 1 < j
    · rw [blt_t q, blt_t (show 1 < m - 1 by omega)]; rfl
    · rw [blt_f q, Bool.and_false]
theorem aS_swB {j p : Nat} (hj : j ≤ m - 1) : aS lg (swB sw m) j p = aS lg sw j p := by
  show stN lg (kf (swB sw m) j) p j = stN lg (kf sw j) p j
  rw [kf_swB hj]
/-- behind an undoing nobody has won -/
theorem wnr_undo (nj0 : NJ K R C lg sw m) (h0 : 0 < m) : wnr K R C lg (m - 1) (swB sw m) 0 = iN := by
  unfold wnr
  rw [if_pos rfl]
  show jnd K R C (aS lg (swB sw m) (m - 1) 0) (aS lg (swB sw m) (m - 1) 1) = iN
  rw [aS_swB (Nat.le_refl _), aS_swB (Nat.le_refl _)]
  exact nj0 (m - 1) (by omega)
theorem bx_undo (hb : BXd K R C lg m sw ea tk se pe us 0 false t tp pn ln tx n ra pl wo ls c) (h0 : 0 < m) : BXd K R C lg (m - 1) (swB sw m) ea tk se pe us 0 false t tp pn ln tx n ra pl wo ls c := by
  obtain ⟨b1, b2, b3, b4, b5, b6, b7, b8, b9⟩ := hb
  refine ⟨b1.undo h0, b2, b3, b4, b5, fun j hj => ?_, b7, fun z => (by cases z), b9⟩
  rw [aS_swB (by omega), aS_swB (by omega)]
  exact b6 j (by omega)
/-! what is told of a cell -/
theorem emp_f (w : WG K R C lg m sw) {d : Nat} (hd : d < bN K R C) : mb (emp (bN K R C) (sN lg m sw 0) (sN lg m sw 1)) d = false ↔ (mb (sN lg m sw 0) d = true ∨ mb (sN lg m sw 1) d = true) := by
  have hE := emp_EH (bN_le w.1) (sN lg m sw 0) (sN lg m sw 1) d
  constructor
  · intro h
    cases h0 : mb (sN lg m sw 0) d with
    | true => exact Or.inl rfl
    | false =>
      cases h1 : mb (sN lg m sw 1) d with
      | true => exact Or.inr rfl
      | false => rw [hE.2 ⟨hd, h0, h1⟩] at h; cases h
  · intro h
    refine bool_f (fun z => ?_)
    obtain ⟨_, a, b⟩ := hE.1 z
    rw [a, b] at h
    rcases h with h | h <;> cases h
theorem cl0 (d : Nat) : clV K R C lg m sw d 0 = if mb (emp (bN K R C) (sN lg m sw 0) (sN lg m sw 1)) d = true then iN else if mb (sN lg m sw 0) d = true then i32 0 else i32 1 := by
  unfold clV
  rw [if_neg (by decide), if_neg (by decide), if_pos rfl]
theorem cl6 (d : Nat) : clV K R C lg m sw d 6 = if mb (emp (bN K R C) (sN lg m sw 0) (sN lg m sw 1)) d = true then iN else i32 (noV lg (kf sw m) d m) := by
  unfold clV
  rw [if_neg (show ¬ (6 : Nat) = 4 by decide), if_neg (show ¬ (6 : Nat) = 5 by decide)]
  by_cases q : mb (emp (bN K R C) (sN lg m sw 0) (sN lg m sw 1)) d = true
  · rw [if_pos q, if_pos q]
  · rw [if_neg q, if_neg q, if_neg (show ¬ (6 : Nat) = 0 by decide), if_pos rfl]
theorem cl0_iN (d : Nat) : clV K R C lg m sw d 0 = iN ↔ mb (emp (bN K R C) (sN lg m sw 0) (sN lg m sw 1)) d = true := by
  rw [cl0]
  by_cases q : mb (emp (bN K R C) (sN lg m sw 0) (sN lg m sw 1)) d = true
  · rw [if_pos q]; exact ⟨fun _ => q, fun _ => rfl⟩
  · rw [if_neg q]
    refine ⟨fun z => ?_, fun z => absurd z q⟩
    split at z <;> exact absurd z (by decide)
theorem kf_le1 (w : WG K R C lg m sw) : kf sw (m + 1) ≤ m := by
  cases sw with
  | false => exact Nat.zero_le _
  | true =>
    have := w.2.2.2 rfl
    rw [kf_t (by omega)]
    omega
/-- the cell of a move, behind it -/
theorem cl_put (w : WG K R C lg m sw) {d : Nat} (he : mb (emp (bN K R C) (sN lg m sw 0) (sN lg m sw 1)) d = true) : clV K R C (lgp lg m d) (m + 1) sw d 0 = i32 (m % 2) ∧ clV K R C (lgp lg m d) (m + 1) sw d 6 = i32 m := by
  have hd := (w.put he).2.2
  have bl := bN_le w.1
  have w2 := (w.put he).1
  obtain ⟨_, e0, e1⟩ := (emp_EH (bN_le w.1) (sN lg m sw 0) (sN lg m sw 1) d).1 he
  have s0 := sN_put (lg := lg) (m := m) (sw := sw) (d := d) (p := 0) w.2.2.2
  have s1 := sN_put (lg := lg) (m := m) (sw := sw) (d := d) (p := 1) w.2.2.2
  have b : ∀ p x, mb (pt (m % 2) p d x) d = (mb x d || decide (m % 2 = p)) := fun p x => by
    unfold pt
    by_cases q : m % 2 = p
    · rw [if_pos q, mb_or, mb_bit _ _ (by omega), decide_eq_true rfl, decide_eq_true q]
    · rw [if_neg q, decide_eq_false q, Bool.or_false]
  have hf : mb (emp (bN K R C) (sN (lgp lg m d) (m + 1) sw 0) (sN (lgp lg m d) (m + 1) sw 1)) d = false := by
    rw [emp_f w2 hd, s0, s1, b, b, e0, e1]
    rcases (show m % 2 = 0 ∨ m % 2 = 1 by omega) with q | q
    · rw [q]; exact Or.inl rfl
    · rw [q]; exact Or.inr rfl
  refine ⟨?_, ?_⟩
  · rw [cl0, if_neg (by rw [hf]; decide), s0, b, e0]
    rcases (show m % 2 = 0 ∨ m % 2 = 1 by omega) with q | q
    · rw [q]; rfl
    · rw [q]; rfl
  · rw [cl6, if_neg (by rw [hf]; decide)]
    show i32 (if kf sw (m + 1) ≤ m ∧ lgp lg m d m = d then m else _) = i32 m
    rw [if_pos ⟨kf_le1 w, by unfold lgp; rw [if_pos rfl]⟩]
theorem cl_swap (w : WG K R C lg 1 sw) {d : Nat} (w2 : WG K R C (lgp lg 1 d) 2 true) (hd : d < bN K R C) : clV K R C (lgp lg 1 d) 2 true d 0 = i32 1 ∧ clV K R C (lgp lg 1 d) 2 true d 6 = i32 1 := by
  have bl := bN_le w.1
  have s0 : sN (lgp lg 1 d) 2 true 0 = 0 := by rw [sN_sw2, if_neg (by decide)]
  have s1 : sN (lgp lg 1 d) 2 true 1 = mbit d := by rw [sN_sw2, if_pos rfl]
  have hf : mb (emp (bN K R C) (sN (lgp lg 1 d) 2 true 0) (sN (lgp lg 1 d) 2 true 1)) d = false := by
    rw [emp_f w2 hd, s1, mb_bit _ _ (by omega)]
    exact Or.inr (decide_eq_true rfl)
  refine ⟨?_, ?_⟩
  · rw [cl0, if_neg (by rw [hf]; decide), s0, mb_zero]; rfl
  · rw [cl6, if_neg (by rw [hf]; decide)]
    show i32 (if kf true 2 ≤ 1 ∧ lgp lg 1 d 1 = d then 1 else _) = i32 1
    rw [if_pos ⟨by rw [kf_t (by decide)]; decide, by unfold lgp; rw [if_pos rfl]⟩]
theorem td5_swap {d : Nat} (lo : Nat) : tdV K R C (lgp lg 1 d) 2 true lo 5 = i32 0 := by
  unfold tdV
  rw [if_neg (by decide), if_neg (by decide), if_neg (by decide), if_neg (by decide), if_neg (by decide), if_pos rfl]
  rw [sN_sw2, if_neg (by decide), grF_0]
theorem td_0 (lo : Nat) : tdV K R C lg m sw lo 0 = i32 m := by unfold tdV; rw [if_pos rfl]
theorem td_1 (lo : Nat) : tdV K R C lg m sw lo 1 = i32 (m % 2) := by unfold tdV; rw [if_neg (by decide), if_pos rfl]
theorem td_2 (lo : Nat) : tdV K R C lg m sw lo 2 = i32 (gn (emp (bN K R C) (sN lg m sw 0) (sN lg m sw 1))) := by unfold tdV; rw [if_neg (by decide), if_neg (by decide), if_pos rfl]
theorem td_3 (lo : Nat) : tdV K R C lg m sw lo 3 = jnd K R C (sN lg m sw 0) (sN lg m sw 1) := by unfold tdV; rw [if_neg (by decide), if_neg (by decide), if_neg (by decide), if_pos rfl]
theorem td_4 (lo : Nat) : tdV K R C lg m sw lo 4 = wnr K R C lg m sw lo := by unfold tdV; rw [if_neg (by decide), if_neg (by decide), if_neg (by decide), if_neg (by decide), if_pos rfl]
theorem m_le (w : WG K R C lg m sw) : m ≤ bN K R C + 1 := by
  have g := gn_aS w (n := m) (Nat.le_refl _)
  have : kf sw m ≤ 1 := by unfold kf; cases (sw && Nat.blt 1 m) <;> decide
  omega
theorem lo_win {lo : Nat} (hl : lo ≤ 2) (h : lo ≠ 0) : ¬ wnr K R C lg m sw lo = iN := by
  unfold wnr
  rw [if_neg h]
  rcases (show lo = 1 ∨ lo = 2 by omega) with q | q <;> (subst q; decide)
/-- who has won is nobody, 0 or 1 -/
theorem wnr_cases {lo : Nat} (hl : lo ≤ 2) : wnr K R C lg m sw lo = iN ∨ wnr K R C lg m sw lo = i32 0 ∨ wnr K R C lg m sw lo = i32 1 := by
  unfold wnr
  by_cases h : lo = 0
  · rw [if_pos h]
    rcases jnd_cases (K := K) (R := R) (C := C) (sN lg m sw 0) (sN lg m sw 1) with ⟨a, _⟩ | ⟨a, _⟩ | ⟨a, _⟩
    · exact Or.inr (Or.inl a)
    · exact Or.inr (Or.inr a)
    · exact Or.inl a
  · rw [if_neg h]
    rcases (show lo = 1 ∨ lo = 2 by omega) with q | q
    · subst q; exact Or.inr (Or.inr rfl)
    · subst q; exact Or.inr (Or.inl rfl)
end
