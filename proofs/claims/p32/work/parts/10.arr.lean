/-! rows of arrays, statics, makings -/
section ROWS4
variable {x : mm_cx} {Q : State → Prop} {Tg : mm_R} {pc : Nat}
theorem mm_al_r {n t : Nat} {f : mm_I}
    (hf : ∀ L st S, f L st S = none ∨ ∃ i k r v, st = .int i :: .ref k :: r ∧ mm_isA S k t = true ∧ (0 ≤ i.toInt ∧ i.toInt < mm_ln k) ∧ f L st S = some (.inl (n, L, v :: r, S)) ∧ (∀ j, v ≠ .ref j) ∧
      ∀ (ad : Nat → Nat) H locs cells slots ls rest, va_P (mm_xD x) vwCl (mm_w ad (mm_xt x) S) H → (mm_w ad (mm_xt x) S)[k]? = some (ad k, .inl (mm_xt x t, mm_ln k, mm_ac S k t)) → mm_W x H locs cells slots Q (F0 (mm_xm x) n ls (v :: rest)) → mm_W x H locs cells slots Q (F0 (mm_xm x) pc ls (.int i :: .ref (ad k) :: rest))) : mm_row x Q Tg pc f := by
  intro L st S
  rcases hf L st S with h | ⟨i, k, r, v, rfl, hA, hi, h, hv, hw⟩
  · exact ⟨fun c' e => (by rw [h] at e; cases e), fun r e => (by rw [h] at e; cases e)⟩
  · refine ⟨fun c' e => ?_, fun r e => (by rw [h] at e; cases e)⟩
    rw [h] at e
    cases e
    refine ⟨mm_le.rf S, fun ad H locs cells slots ls hR _ kk => ?_⟩
    obtain ⟨hlt, hlay⟩ := mm_isA_spec hA
    have he := mm_w_get (ad := ad) (tc := mm_xt x) hlt
    rw [mm_ce_A hlay] at he
    have k1 := kk ad H locs cells slots ls (by
      obtain ⟨r1, r2, r3, r4, r5, r6, r7, r8, r9, r10, r11⟩ := hR
      refine ⟨r1, r2, r3, r4, r5, r6, r7, fun w hm => ?_, r9, r10, r11⟩
      rcases List.mem_cons.mp hm with e | e
      · rw [e]; exact fun j e => absurd e (hv j)
      · exact r8 w (List.mem_cons_of_mem _ (List.mem_cons_of_mem _ e)))
    have e : mm_cv ad v = v := by cases v <;> first | rfl | exact absurd rfl (hv _)
    rw [List.map_cons, e] at k1
    exact hw ad H locs cells slots ls _ hR.1 he k1
theorem mm_r_iald (X : mm_X x) (d : decode (mm_xk x) pc = .ok (.iaload, 1)) : mm_row x Q Tg pc (mm_ald (pc + 1) 0) := by
  refine mm_al_r (n := pc + 1) (t := 0) (fun L st S => ?_)
  unfold mm_ald
  split
  · next i k r =>
    cases h : mm_isA S k 0 with
    | false => exact Or.inl rfl
    | true =>
      by_cases hi : 0 ≤ i.toInt ∧ i.toInt < mm_ln k
      · exact Or.inr ⟨i, k, r, _, rfl, h, hi, (by rw [cond_true, if_pos hi] <;> rfl), fun j e => (by cases e), fun ad H locs cells slots ls rest hP he kk => va_iald X.1 X.2.1 X.2.2.2.2.2.1 hP k 0 he rfl (mm_vp hi) d kk⟩
      · exact Or.inl (by rw [cond_true, if_neg hi])
  · exact Or.inl rfl
theorem mm_r_bald (X : mm_X x) (d : decode (mm_xk x) pc = .ok (.baload, 1)) : mm_row x Q Tg pc (mm_ald (pc + 1) 2) := by
  refine mm_al_r (n := pc + 1) (t := 2) (fun L st S => ?_)
  unfold mm_ald
  split
  · next i k r =>
    cases h : mm_isA S k 2 with
    | false => exact Or.inl rfl
    | true =>
      by_cases hi : 0 ≤ i.toInt ∧ i.toInt < mm_ln k
      · exact Or.inr ⟨i, k, r, _, rfl, h, hi, (by rw [cond_true, if_pos hi] <;> rfl), fun j e => (by cases e), fun ad H locs cells slots ls rest hP he kk => va_bald X.1 X.2.1 X.2.2.2.2.2.1 hP k 2 he rfl (mm_vp hi) d kk⟩
      · exact Or.inl (by rw [cond_true, if_neg hi])
  · exact Or.inl rfl
theorem mm_r_cald (X : mm_X x) (d : decode (mm_xk x) pc = .ok (.caload, 1)) : mm_row x Q Tg pc (mm_ald (pc + 1) 3) := by
  refine mm_al_r (n := pc + 1) (t := 3) (fun L st S => ?_)
  unfold mm_ald
  split
  · next i k r =>
    cases h : mm_isA S k 3 with
    | false => exact Or.inl rfl
    | true =>
      by_cases hi : 0 ≤ i.toInt ∧ i.toInt < mm_ln k
      · exact Or.inr ⟨i, k, r, _, rfl, h, hi, (by rw [cond_true, if_pos hi] <;> rfl), fun j e => (by cases e), fun ad H locs cells slots ls rest hP he kk => va_cald X.1 X.2.1 X.2.2.2.2.2.1 hP k 3 he rfl (mm_vp hi) d kk⟩
      · exact Or.inl (by rw [cond_true, if_neg hi])
  · exact Or.inl rfl
theorem mm_r_lald (X : mm_X x) (d : decode (mm_xk x) pc = .ok (.laload, 1)) : mm_row x Q Tg pc (mm_aldJ (pc + 1)) := by
  refine mm_al_r (n := pc + 1) (t := 1) (fun L st S => ?_)
  unfold mm_aldJ
  split
  · next i k r =>
    cases h : mm_isA S k 1 with
    | false => exact Or.inl rfl
    | true =>
      by_cases hi : 0 ≤ i.toInt ∧ i.toInt < mm_ln k
      · exact Or.inr ⟨i, k, r, _, rfl, h, hi, (by rw [cond_true, if_pos hi] <;> rfl), fun j e => (by cases e), fun ad H locs cells slots ls rest hP he kk => va_lald X.1 X.2.1 X.2.2.2.2.2.1 hP k 1 he rfl (mm_vp hi) d kk⟩
      · exact Or.inl (by rw [cond_true, if_neg hi])
  · exact Or.inl rfl
/-- what a write to one row leaves -/
def mm_wa (k t : Nat) (z : (Nat → Int32) ⊕ (Nat → Int64) ⊕ (Nat → UInt32) ⊕ (Nat → UInt64) ⊕ (Nat → Option Nat)) (S S' : mm_S) : Prop := S'.1 = S.1 ∧ S'.2.1 = S.2.1 ∧ S'.2.2.1 = S.2.2.1 ∧ mm_ac S' k t = z ∧ ∀ ad tc j, j ≠ k → mm_ce ad tc S' j = mm_ce ad tc S j
theorem mm_as_r {t : Nat} {f : mm_I}
    (hf : ∀ L st S, f L st S = none ∨ ∃ u i k r z S', st = u :: .int i :: .ref k :: r ∧ (∀ j, u ≠ .ref j) ∧ mm_isA S k t = true ∧ (0 ≤ i.toInt ∧ i.toInt < mm_ln k) ∧ f L st S = some (.inl (pc + 1, L, r, S')) ∧ mm_wa k t z S S' ∧
      ∀ (ad : Nat → Nat) H locs cells slots ls rest, va_P (mm_xD x) vwCl (mm_w ad (mm_xt x) S) H → va_D (mm_xA x) (mm_w ad (mm_xt x) S) → va_S (mm_xA x) (mm_xs x).heap H locs → (mm_w ad (mm_xt x) S)[k]? = some (ad k, .inl (mm_xt x t, mm_ln k, mm_ac S k t)) →
        (∀ H1 locs1, va_P (mm_xD x) vwCl ((mm_w ad (mm_xt x) S).set k (ad k, .inl (mm_xt x t, mm_ln k, z))) H1 → va_D (mm_xA x) ((mm_w ad (mm_xt x) S).set k (ad k, .inl (mm_xt x t, mm_ln k, z))) → va_S (mm_xA x) (mm_xs x).heap H1 locs1 → mm_W x H1 locs1 cells slots Q (F0 (mm_xm x) (pc + 1) ls rest)) →
        mm_W x H locs cells slots Q (F0 (mm_xm x) pc ls (u :: .int i :: .ref (ad k) :: rest))) : mm_row x Q Tg pc f := by
  intro L st S
  rcases hf L st S with h | ⟨u, i, k, r, z, S', rfl, hu, hA, hi, h, ⟨e1, e2, e3, e4, e5⟩, hw⟩
  · exact ⟨fun c' e => (by rw [h] at e; cases e), fun r e => (by rw [h] at e; cases e)⟩
  · refine ⟨fun c' e => ?_, fun r e => (by rw [h] at e; cases e)⟩
    rw [h] at e
    cases e
    refine ⟨⟨Nat.le_of_eq e1.symm, Nat.le_of_eq e2.symm⟩, fun ad H locs cells slots ls hR _ kk => ?_⟩
    obtain ⟨hlt, hlay⟩ := mm_isA_spec hA
    have he := mm_w_get (ad := ad) (tc := mm_xt x) hlt
    rw [mm_ce_A hlay] at he
    obtain ⟨r1, r2, r3, r4, r5, r6, r7, r8, r9, r10, r11⟩ := hR
    have hset : mm_w ad (mm_xt x) S' = (mm_w ad (mm_xt x) S).set k (ad k, .inl (mm_xt x t, mm_ln k, z)) := by
      rw [mm_w_set e1 (fun j hj => e5 ad (mm_xt x) j hj), mm_ce_A hlay, e4]
    have eu : mm_cv ad u = u := by cases u <;> first | rfl | exact absurd rfl (hu _)
    have k1 := hw ad H locs cells slots ls (r.map (mm_cv ad)) r1 r2 r3 he (fun H1 locs1 p1 p2 p3 => kk ad H1 locs1 cells slots ls (by
      rw [← hset] at p1 p2
      refine ⟨p1, p2, p3, r4, ?_, ?_, ?_, fun w hm => ?_, fun i w e => ?_, fun a b => ?_, r11⟩
      · rw [r5]; unfold mm_nc; rw [e1, e2]
      · rw [r6]; unfold mm_ns; rw [e1, e2]
      · exact ⟨by rw [e1]; exact r7.1, by rw [e2]; exact r7.2⟩
      · rw [e1]; exact r8 w (List.mem_cons_of_mem _ (List.mem_cons_of_mem _ (List.mem_cons_of_mem _ hm)))
      · rw [e1]; exact r9 i w e
      · rw [e1, e3]; exact r10 a b))
    rw [List.map_cons, eu]
    exact k1
theorem mm_wa_I {k t : Nat} {i : Nat} {v : Int32} {S : mm_S} (ht : t ≠ 1) (hlay : mm_lay k = .inr (t, mm_ln k)) : mm_wa k t (.inl (upd (S.2.2.2.2.2.1 k) i v)) S (S.1, S.2.1, S.2.2.1, S.2.2.2.1, S.2.2.2.2.1, mm_up S.2.2.2.2.2.1 k i v, S.2.2.2.2.2.2) := by
  refine ⟨rfl, rfl, rfl, ?_, fun ad tc j hj => ?_⟩
  · unfold mm_ac
    rw [if_neg ht]
    congr 1
    funext j
    show mm_up S.2.2.2.2.2.1 k i v k j = upd (S.2.2.2.2.2.1 k) i v j
    unfold mm_up upd
    rw [if_pos rfl]
  · unfold mm_ce
    split
    · rfl
    · next q _ =>
      have : mm_ac (S.1, S.2.1, S.2.2.1, S.2.2.2.1, S.2.2.2.2.1, mm_up S.2.2.2.2.2.1 k i v, S.2.2.2.2.2.2) j q.1 = mm_ac S j q.1 := by
        unfold mm_ac
        split
        · rfl
        · congr 1
          funext a
          show mm_up S.2.2.2.2.2.1 k i v j a = _
          unfold mm_up
          rw [if_neg hj]
      rw [this]
theorem mm_wa_J {k : Nat} {i : Nat} {v : Int64} {S : mm_S} (hlay : mm_lay k = .inr (1, mm_ln k)) : mm_wa k 1 (.inr (.inl (vp_updL (S.2.2.2.2.2.2 k) i v))) S (S.1, S.2.1, S.2.2.1, S.2.2.2.1, S.2.2.2.2.1, S.2.2.2.2.2.1, mm_up S.2.2.2.2.2.2 k i v) := by
  refine ⟨rfl, rfl, rfl, ?_, fun ad tc j hj => ?_⟩
  · unfold mm_ac
    rw [if_pos rfl]
    congr 2
    funext j
    show mm_up S.2.2.2.2.2.2 k i v k j = vp_updL (S.2.2.2.2.2.2 k) i v j
    unfold mm_up vp_updL
    rw [if_pos rfl]
  · unfold mm_ce
    split
    · rfl
    · next q _ =>
      have : mm_ac (S.1, S.2.1, S.2.2.1, S.2.2.2.1, S.2.2.2.2.1, S.2.2.2.2.2.1, mm_up S.2.2.2.2.2.2 k i v) j q.1 = mm_ac S j q.1 := by
        unfold mm_ac
        split
        · congr 2
          funext a
          show mm_up S.2.2.2.2.2.2 k i v j a = _
          unfold mm_up
          rw [if_neg hj]
        · rfl
      rw [this]
theorem mm_r_iast (X : mm_X x) (d : decode (mm_xk x) pc = .ok (.iastore, 1)) : mm_row x Q Tg pc (mm_ast (pc + 1) 0 (fun v => v)) := by
  refine mm_as_r (t := 0) (fun L st S => ?_)
  unfold mm_ast
  split
  · next v i k r =>
    cases h : mm_isA S k 0 with
    | false => exact Or.inl rfl
    | true =>
      by_cases hi : 0 ≤ i.toInt ∧ i.toInt < mm_ln k
      · exact Or.inr ⟨.int v, i, k, r, _, _, rfl, fun j e => (by cases e), h, hi, (by rw [cond_true, if_pos hi] <;> rfl), mm_wa_I (by decide) (mm_isA_spec h).2, fun ad H locs cells slots ls rest hP hD hS he kk => va_iast X.1 X.2.1 X.2.2.2.2.2.1 hP hD hS k 0 he rfl (mm_vp hi) d kk⟩
      · exact Or.inl (by rw [cond_true, if_neg hi])
  · exact Or.inl rfl
theorem mm_r_bast (X : mm_X x) (d : decode (mm_xk x) pc = .ok (.bastore, 1)) : mm_row x Q Tg pc (mm_ast (pc + 1) 2 (fun v => v.toInt8.toInt32)) := by
  refine mm_as_r (t := 2) (fun L st S => ?_)
  unfold mm_ast
  split
  · next v i k r =>
    cases h : mm_isA S k 2 with
    | false => exact Or.inl rfl
    | true =>
      by_cases hi : 0 ≤ i.toInt ∧ i.toInt < mm_ln k
      · exact Or.inr ⟨.int v, i, k, r, _, _, rfl, fun j e => (by cases e), h, hi, (by rw [cond_true, if_pos hi] <;> rfl), mm_wa_I (by decide) (mm_isA_spec h).2, fun ad H locs cells slots ls rest hP hD hS he kk => va_bast X.1 X.2.1 X.2.2.2.2.2.1 hP hD hS k 2 he rfl (mm_vp hi) d (by rw [vp_nar_byte]; exact kk)⟩
      · exact Or.inl (by rw [cond_true, if_neg hi])
  · exact Or.inl rfl
theorem mm_r_cast (X : mm_X x) (d : decode (mm_xk x) pc = .ok (.castore, 1)) : mm_row x Q Tg pc (mm_ast (pc + 1) 3 (fun v => v.toUInt32.toUInt16.toUInt32.toInt32)) := by
  refine mm_as_r (t := 3) (fun L st S => ?_)
  unfold mm_ast
  split
  · next v i k r =>
    cases h : mm_isA S k 3 with
    | false => exact Or.inl rfl
    | true =>
      by_cases hi : 0 ≤ i.toInt ∧ i.toInt < mm_ln k
      · exact Or.inr ⟨.int v, i, k, r, _, _, rfl, fun j e => (by cases e), h, hi, (by rw [cond_true, if_pos hi] <;> rfl), mm_wa_I (by decide) (mm_isA_spec h).2, fun ad H locs cells slots ls rest hP hD hS he kk => va_cast X.1 X.2.1 X.2.2.2.2.2.1 hP hD hS k 3 he rfl (mm_vp hi) d (by rw [vp_nar_char]; exact kk)⟩
      · exact Or.inl (by rw [cond_true, if_neg hi])
  · exact Or.inl rfl
theorem mm_r_last (X : mm_X x) (d : decode (mm_xk x) pc = .ok (.lastore, 1)) : mm_row x Q Tg pc (mm_astJ (pc + 1)) := by
  refine mm_as_r (t := 1) (fun L st S => ?_)
  unfold mm_astJ
  split
  · next v i k r =>
    cases h : mm_isA S k 1 with
    | false => exact Or.inl rfl
    | true =>
      by_cases hi : 0 ≤ i.toInt ∧ i.toInt < mm_ln k
      · exact Or.inr ⟨.long v, i, k, r, _, _, rfl, fun j e => (by cases e), h, hi, (by rw [cond_true, if_pos hi] <;> rfl), mm_wa_J (mm_isA_spec h).2, fun ad H locs cells slots ls rest hP hD hS he kk => va_last X.1 X.2.1 X.2.2.2.2.2.1 hP hD hS k 1 he rfl (mm_vp hi) d kk⟩
      · exact Or.inl (by rw [cond_true, if_neg hi])
  · exact Or.inl rfl
theorem mm_r_aln (X : mm_X x) {t : Nat} (ht : t < 4) (d : decode (mm_xk x) pc = .ok (.arraylength, 1)) : mm_row x Q Tg pc (mm_aln (pc + 1) t) := by
  intro L st S
  unfold mm_aln
  split
  · next k r =>
    cases h : mm_isA S k t with
    | false => exact ⟨fun c' e => (by cases e), fun r e => (by cases e)⟩
    | true =>
      refine ⟨fun c' e => ?_, fun r e => (by cases e)⟩
      cases e
      refine ⟨mm_le.rf S, fun ad H locs cells slots ls hR _ kk => ?_⟩
      obtain ⟨hlt, hlay⟩ := mm_isA_spec h
      have he := mm_w_get (ad := ad) (tc := mm_xt x) hlt
      rw [mm_ce_A hlay] at he
      refine va_alen (x := (mm_ln k, mm_ac S k t)) X.1 X.2.1 X.2.2.2.2.2.1 hR.1 k t he (mm_tys_at ht) rfl d (kk ad H locs cells slots ls ?_)
      obtain ⟨r1, r2, r3, r4, r5, r6, r7, r8, r9, r10, r11⟩ := hR
      refine ⟨r1, r2, r3, r4, r5, r6, r7, fun w hm => ?_, r9, r10, r11⟩
      rcases List.mem_cons.mp hm with e | e
      · rw [e]; exact fun j e => (by cases e)
      · exact r8 w (List.mem_cons_of_mem _ e)
  · exact ⟨fun c' e => (by cases e), fun r e => (by cases e)⟩
theorem mm_r_gets (X : mm_X x) {i index : Nat} {q : String × String × Nat × List Int32} (hq : mm_sta[i]? = some q) (d : decode (mm_xk x) pc = .ok (.getstatic index, 3)) (hw : Cond.fieldLink (mm_xo x) index q.1 q.2.1 "[I" ∈ mm_ws) : mm_row x Q Tg pc (mm_k (pc + 3) (.ref (1000 + i))) := by
  intro L st S
  refine ⟨fun c' e => ?_, fun r e => (by cases e)⟩
  cases e
  refine ⟨mm_le.rf S, fun ad H locs cells slots ls hR _ kk => ?_⟩
  have k1 := kk ad H locs cells slots ls (by
    obtain ⟨r1, r2, r3, r4, r5, r6, r7, r8, r9, r10, r11⟩ := hR
    refine ⟨r1, r2, r3, r4, r5, r6, r7, fun w hm => ?_, r9, r10, r11⟩
    rcases List.mem_cons.mp hm with e | e
    · rw [e]; exact fun j e => (by cases e; exact Or.inr (Nat.le_add_right _ _))
    · exact r8 w e)
  have hO := X.2.2.2.2.2.2.2.2.1.1 i q hq
  rw [← hR.2.2.2.2.2.2.2.2.2.2.2 _ (Nat.le_add_right _ _)] at hO
  exact va_gets X.1 X.2.1 hO.1 hR.2.2.1 X.2.2.2.1 (X.2.2.2.2.1 _ hw) (fun _ h => h) d k1
theorem mm_r_aldS (X : mm_X x) {i : Nat} (d : decode (mm_xk x) pc = .ok (.iaload, 1)) : mm_row x Q Tg pc (mm_aldS (pc + 1) i) := by
  intro L st S
  unfold mm_aldS
  split
  · next j q r =>
    cases h : Nat.beq q (1000 + i) with
    | false => exact ⟨fun c' e => (by cases e), fun r e => (by cases e)⟩
    | true =>
      have hq := Nat.eq_of_beq_eq_true h
      subst hq
      rw [cond_true]
      split
      · next z hz =>
        by_cases hi : 0 ≤ j.toInt ∧ j.toInt < z.2.2.1
        · rw [if_pos hi]
          refine ⟨fun c' e => ?_, fun r e => (by cases e)⟩
          cases e
          refine ⟨mm_le.rf S, fun ad H locs cells slots ls hR _ kk => ?_⟩
          have k1 := kk ad H locs cells slots ls (by
            obtain ⟨r1, r2, r3, r4, r5, r6, r7, r8, r9, r10, r11⟩ := hR
            refine ⟨r1, r2, r3, r4, r5, r6, r7, fun w hm => ?_, r9, r10, r11⟩
            rcases List.mem_cons.mp hm with e | e
            · rw [e]; exact fun j e => (by cases e)
            · exact r8 w (List.mem_cons_of_mem _ (List.mem_cons_of_mem _ e)))
          have hO := X.2.2.2.2.2.2.2.2.1.1 i z hz
          rw [← hR.2.2.2.2.2.2.2.2.2.2.2 _ (Nat.le_add_right _ _)] at hO
          exact va_ti X.1 X.2.1 hO.2 hR.2.2.1 (mm_vp hi) rfl d k1
        · rw [if_neg hi]
          exact ⟨fun c' e => (by cases e), fun r e => (by cases e)⟩
      · exact ⟨fun c' e => (by cases e), fun r e => (by cases e)⟩
  · exact ⟨fun c' e => (by cases e), fun r e => (by cases e)⟩
theorem mm_r_obj (X : mm_X x) {index : Nat} (d : decode (mm_xk x) pc = .ok (.invokespecial index, 3)) (hw : Cond.methodLink (mm_xo x) index objectInit ∈ mm_ws) (h2 : Cond.instanceMethod objectInit ∈ mm_ws) (h3 : Cond.code objectInit ⟨#[0xb1]⟩ 1 none ∈ mm_ws) (hfr : 1 ≤ (mm_xR x).frames) (hlo : 20 ≤ (mm_xR x).locals) : mm_row x Q Tg pc (mm_obj (pc + 3)) := by
  intro L st S
  unfold mm_obj
  split
  · next k r =>
    cases h : (Nat.blt k S.1 && Nat.ble (mm_cat r) 8) with
    | false => exact ⟨fun c' e => (by cases e), fun r e => (by cases e)⟩
    | true =>
      rw [Bool.and_eq_true] at h
      refine ⟨fun c' e => ?_, fun r e => (by cases e)⟩
      cases e
      refine ⟨mm_le.rf S, fun ad H locs cells slots ls hR _ kk => ?_⟩
      have hcr : mm_cat r ≤ 8 := Nat.le_of_ble_eq_true h.2
      refine W.objInit X.1 X.2.1 X.2.2.2.1 (X.2.2.2.2.1 _ hw) (X.2.2.2.2.1 _ h2) (X.2.2.2.2.1 _ h3) rfl (by rw [X.2.2.1]; exact hR.2.2.2.1.1) (a := ad k) (rest := r.map (mm_cv ad)) rfl d hfr (by rw [mm_cv_sum]; show 2 * 0 + mm_cat r + 12 ≤ _; omega) (W.eq (g2 := F0 (mm_xm x) (pc + 3) ls (r.map (mm_cv ad))) rfl (kk ad H locs cells slots ls ?_))
      obtain ⟨r1, r2, r3, r4, r5, r6, r7, r8, r9, r10, r11⟩ := hR
      exact ⟨r1, r2, r3, r4, r5, r6, r7, fun w hm => r8 w (List.mem_cons_of_mem _ hm), r9, r10, r11⟩
  · exact ⟨fun c' e => (by cases e), fun r e => (by cases e)⟩
end ROWS4
