theorem mm_narZ {v : Int32} (h : v = 0 ∨ v = 1) : narrow .boolean (.int v) = .int v ∧ fits .boolean (.int v) = true := by
  rcases h with rfl | rfl <;> exact ⟨by decide +kernel, by decide +kernel⟩
theorem mm_isO_spec {S : mm_S} {k ci : Nat} (h : mm_isO S k ci = true) : k < S.1 ∧ mm_lay k = .inl ci := by
  unfold mm_isO at h
  rw [Bool.and_eq_true] at h
  refine ⟨by have := h.1; rwa [Nat.blt_eq] at this, ?_⟩
  have h2 := h.2
  split at h2
  · next c hc => rw [hc, Nat.eq_of_beq_eq_true h2]
  · cases h2
theorem mm_isA_spec {S : mm_S} {k t : Nat} (h : mm_isA S k t = true) : k < S.1 ∧ mm_lay k = .inr (t, mm_ln k) := by
  unfold mm_isA at h
  rw [Bool.and_eq_true] at h
  refine ⟨by have := h.1; rwa [Nat.blt_eq] at this, ?_⟩
  have h2 := h.2
  unfold mm_ln
  split at h2
  · cases h2
  · next q hq =>
    rw [hq]
    have := Nat.eq_of_beq_eq_true h2
    rw [← this]
theorem mm_fl_get {ad : Nat → Nat} {S : mm_S} {k ci p : Nat} (h : p < mm_nf ci) : (mm_fl ad S k ci)[p]? = some (mm_fv ad S k ci p) := by
  unfold mm_fl
  rw [List.getElem?_map, List.getElem?_range h]
  rfl
theorem mm_fl_len {ad : Nat → Nat} {S : mm_S} {k ci : Nat} : (mm_fl ad S k ci).length = mm_nf ci := by
  unfold mm_fl
  simp
theorem mm_fl_set {ad : Nat → Nat} {S S' : mm_S} {k ci p : Nat} {w : Value} (hp : p < mm_nf ci) (h : ∀ q, mm_fv ad S' k ci q = if q = p then w else mm_fv ad S k ci q) : mm_fl ad S' k ci = (mm_fl ad S k ci).set p w := by
  apply List.ext_getElem?
  intro i
  rw [List.getElem?_set]
  by_cases hi : i < mm_nf ci
  · rw [mm_fl_get hi, h i]
    split
    · next e =>
      subst e
      rw [if_pos rfl, mm_fl_len, if_pos hi]
    · next e => rw [if_neg (fun q => e q.symm), mm_fl_get hi]
  · rw [List.getElem?_eq_none (by rw [mm_fl_len]; omega)]
    split
    · next e =>
      subst e
      omega
    · rw [List.getElem?_eq_none (by rw [mm_fl_len]; omega)]
theorem mm_vp {i : Int32} {n : Nat} (h : 0 ≤ i.toInt ∧ i.toInt < n) : vp_in i n := vp_in_iff.mpr h
theorem mm_ce_O {ad : Nat → Nat} {tc : Nat → ClassId} {S : mm_S} {k ci : Nat} (h : mm_lay k = .inl ci) : mm_ce ad tc S k = .inr (ci, mm_fl ad S k ci) := by
  unfold mm_ce
  rw [h]
theorem mm_ce_A {ad : Nat → Nat} {tc : Nat → ClassId} {S : mm_S} {k t n : Nat} (h : mm_lay k = .inr (t, n)) : mm_ce ad tc S k = .inl (tc t, n, mm_ac S k t) := by
  unfold mm_ce
  rw [h]
section ROWS3
variable {x : mm_cx} {Q : State → Prop} {Tg : mm_R} {pc : Nat}
theorem mm_gf_r (X : mm_X x) {index ci p N : Nat} {C ref : String} {T : u_T} {f : mm_I} (val : mm_S → Nat → Value)
    (hf : ∀ L st S, f L st S = none ∨ ∃ k r, st = .ref k :: r ∧ mm_isO S k ci = true ∧ f L st S = some (.inl (pc + 3, L, val S k :: r, S)))
    (hval : ∀ ad S k, mm_fv ad S k ci p = mm_cv ad (val S k)) (hvk : ∀ S k, mm_Rv S → mm_vk S.1 (val S k))
    (hc : vwCl[ci]? = some (C, T, N)) (hp : p < N) (d : decode (mm_xk x) pc = .ok (.getfield index, 3)) (hw : Cond.fieldLink (mm_xo x) index ref (T p).2.1 (T p).2.2.1 ∈ mm_ws) (href : (T p).1 = ref) : mm_row x Q Tg pc f := by
  intro L st S
  rcases hf L st S with h | ⟨k, r, rfl, hO, h⟩
  · exact ⟨fun c' e => (by rw [h] at e; cases e), fun r e => (by rw [h] at e; cases e)⟩
  · refine ⟨fun c' e => ?_, fun r e => (by rw [h] at e; cases e)⟩
    rw [h] at e
    cases e
    refine ⟨mm_le.rf S, fun ad H locs cells slots ls hR _ kk => ?_⟩
    obtain ⟨hlt, hlay⟩ := mm_isO_spec hO
    have he := mm_w_get (ad := ad) (tc := mm_xt x) hlt
    rw [mm_ce_O hlay] at he
    have k1 := kk ad H locs cells slots ls (by
      obtain ⟨r1, r2, r3, r4, r5, r6, r7, r8, r9, r10, r11⟩ := hR
      refine ⟨r1, r2, r3, r4, r5, r6, r7, fun v hm => ?_, r9, r10, r11⟩
      rcases List.mem_cons.mp hm with e | e
      · rw [e]; exact hvk S k r10
      · exact r8 v (List.mem_cons_of_mem _ e))
    have k2 : mm_W x H locs cells slots Q (F0 (mm_xm x) (pc + 3) ls (mm_fv ad S k ci p :: r.map (mm_cv ad))) := by rw [hval]; exact k1
    exact va_get X.1 X.2.1 X.2.2.2.2.1 (mm_uws hc) X.2.2.2.1 X.2.2.2.2.2.1 hR.1 k he hc p hp (X.2.2.2.2.1 _ hw) (fun _ h => by rw [← href]; exact h) (mm_fl_get (by rw [mm_nf_eq hc]; exact hp)) d k2
theorem mm_r_gfI (X : mm_X x) {index ci p N : Nat} {C ref : String} {T : u_T} (hkd : mm_kd ci p = 0)
    (hc : vwCl[ci]? = some (C, T, N)) (hp : p < N) (d : decode (mm_xk x) pc = .ok (.getfield index, 3)) (hw : Cond.fieldLink (mm_xo x) index ref (T p).2.1 (T p).2.2.1 ∈ mm_ws) (href : (T p).1 = ref) : mm_row x Q Tg pc (mm_gfI (pc + 3) ci p) := by
  refine mm_gf_r X (ci := ci) (p := p) (fun S k => .int (S.2.2.2.1 k p)) (fun L st S => ?_) (fun ad S k => by unfold mm_fv; rw [hkd]; rfl) (fun S k _ j e => by cases e) hc hp d hw href
  unfold mm_gfI
  split
  · next k r =>
    cases h : mm_isO S k ci with
    | false => exact Or.inl rfl
    | true => exact Or.inr ⟨k, r, rfl, h, rfl⟩
  · exact Or.inl rfl
theorem mm_r_gfJ (X : mm_X x) {index ci p N : Nat} {C ref : String} {T : u_T} (hkd : mm_kd ci p = 1)
    (hc : vwCl[ci]? = some (C, T, N)) (hp : p < N) (d : decode (mm_xk x) pc = .ok (.getfield index, 3)) (hw : Cond.fieldLink (mm_xo x) index ref (T p).2.1 (T p).2.2.1 ∈ mm_ws) (href : (T p).1 = ref) : mm_row x Q Tg pc (mm_gfJ (pc + 3) ci p) := by
  refine mm_gf_r X (ci := ci) (p := p) (fun S k => .long (S.2.2.2.2.1 k p)) (fun L st S => ?_) (fun ad S k => by unfold mm_fv; rw [hkd]; rfl) (fun S k _ j e => by cases e) hc hp d hw href
  unfold mm_gfJ
  split
  · next k r =>
    cases h : mm_isO S k ci with
    | false => exact Or.inl rfl
    | true => exact Or.inr ⟨k, r, rfl, h, rfl⟩
  · exact Or.inl rfl
theorem mm_r_gfR (X : mm_X x) {index ci p N : Nat} {C ref : String} {T : u_T} (hkd : mm_kd ci p = 2)
    (hc : vwCl[ci]? = some (C, T, N)) (hp : p < N) (d : decode (mm_xk x) pc = .ok (.getfield index, 3)) (hw : Cond.fieldLink (mm_xo x) index ref (T p).2.1 (T p).2.2.1 ∈ mm_ws) (href : (T p).1 = ref) : mm_row x Q Tg pc (mm_gfR (pc + 3) ci p) := by
  refine mm_gf_r X (ci := ci) (p := p) (fun S k => S.2.2.1 k p) (fun L st S => ?_) (fun ad S k => by unfold mm_fv; rw [hkd]; rfl) (fun S k h => h k p) hc hp d hw href
  unfold mm_gfR
  split
  · next k r =>
    cases h : mm_isO S k ci with
    | false => exact Or.inl rfl
    | true => exact Or.inr ⟨k, r, rfl, h, rfl⟩
  · exact Or.inl rfl
/-- what a write to one field leaves -/
def mm_wf (ci p k : Nat) (v : Value) (S S' : mm_S) : Prop := S'.1 = S.1 ∧ S'.2.1 = S.2.1 ∧ (∀ ad q, mm_fv ad S' k ci q = if q = p then mm_cv ad v else mm_fv ad S k ci q) ∧ (∀ ad tc j, j ≠ k → mm_ce ad tc S' j = mm_ce ad tc S j) ∧ (mm_Rv S → mm_vk S.1 v → mm_Rv S')
theorem mm_pf_r (X : mm_X x) {ci p N : Nat} {C : String} {T : u_T} {f : mm_I}
    (hf : ∀ L st S, f L st S = none ∨ ∃ v k r S', st = v :: .ref k :: r ∧ mm_isO S k ci = true ∧ f L st S = some (.inl (pc + 3, L, r, S')) ∧ mm_wf ci p k v S S' ∧
      ∀ (ad : Nat → Nat) H locs cells slots ls, va_P (mm_xD x) vwCl (mm_w ad (mm_xt x) S) H → va_D (mm_xA x) (mm_w ad (mm_xt x) S) → va_S (mm_xA x) (mm_xs x).heap H locs →
        (mm_w ad (mm_xt x) S)[k]? = some (ad k, .inr (ci, mm_fl ad S k ci)) →
        (∀ H1 locs1, va_P (mm_xD x) vwCl ((mm_w ad (mm_xt x) S).set k (ad k, .inr (ci, (mm_fl ad S k ci).set p (mm_cv ad v)))) H1 → va_D (mm_xA x) ((mm_w ad (mm_xt x) S).set k (ad k, .inr (ci, (mm_fl ad S k ci).set p (mm_cv ad v)))) → va_S (mm_xA x) (mm_xs x).heap H1 locs1 → mm_W x H1 locs1 cells slots Q (F0 (mm_xm x) (pc + 3) ls (r.map (mm_cv ad)))) →
        mm_W x H locs cells slots Q (F0 (mm_xm x) pc ls (mm_cv ad v :: .ref (ad k) :: r.map (mm_cv ad))))
    (hc : vwCl[ci]? = some (C, T, N)) (hp : p < N) : mm_row x Q Tg pc f := by
  intro L st S
  rcases hf L st S with h | ⟨v, k, r, S', rfl, hO, h, ⟨e1, e2, e3, e4, e5⟩, hw⟩
  · exact ⟨fun c' e => (by rw [h] at e; cases e), fun r e => (by rw [h] at e; cases e)⟩
  · refine ⟨fun c' e => ?_, fun r e => (by rw [h] at e; cases e)⟩
    rw [h] at e
    cases e
    refine ⟨⟨Nat.le_of_eq e1.symm, Nat.le_of_eq e2.symm⟩, fun ad H locs cells slots ls hR _ kk => ?_⟩
    obtain ⟨hlt, hlay⟩ := mm_isO_spec hO
    have he := mm_w_get (ad := ad) (tc := mm_xt x) hlt
    rw [mm_ce_O hlay] at he
    obtain ⟨r1, r2, r3, r4, r5, r6, r7, r8, r9, r10, r11⟩ := hR
    have hset : mm_w ad (mm_xt x) S' = (mm_w ad (mm_xt x) S).set k (ad k, .inr (ci, (mm_fl ad S k ci).set p (mm_cv ad v))) := by
      rw [mm_w_set e1 (fun j hj => e4 ad (mm_xt x) j hj), mm_ce_O hlay, mm_fl_set (by rw [mm_nf_eq hc]; exact hp) (e3 ad)]
    refine hw ad H locs cells slots ls r1 r2 r3 he (fun H1 locs1 p1 p2 p3 => kk ad H1 locs1 cells slots ls ?_)
    rw [← hset] at p1 p2
    refine ⟨p1, p2, p3, r4, ?_, ?_, ?_, fun w hm => ?_, fun i w e => ?_, e5 r10 (r8 v List.mem_cons_self), r11⟩
    · rw [r5]; unfold mm_nc; rw [e1, e2]
    · rw [r6]; unfold mm_ns; rw [e1, e2]
    · exact ⟨by rw [e1]; exact r7.1, by rw [e2]; exact r7.2⟩
    · rw [e1]; exact r8 w (List.mem_cons_of_mem _ (List.mem_cons_of_mem _ hm))
    · rw [e1]; exact r9 i w e
theorem mm_wf_I {ci p k : Nat} {v : Int32} {S : mm_S} (hkd : mm_kd ci p = 0) : mm_wf ci p k (.int v) S (S.1, S.2.1, S.2.2.1, mm_up S.2.2.2.1 k p v, S.2.2.2.2) := by
  refine ⟨rfl, rfl, fun ad q => ?_, fun ad tc j hj => ?_, fun h _ => h⟩
  · unfold mm_fv
    by_cases e : q = p
    · subst e
      rw [hkd, if_pos rfl]
      show Value.int (mm_up S.2.2.2.1 k q v k q) = .int v
      unfold mm_up
      rw [if_pos rfl, if_pos rfl]
    · rw [if_neg e]
      split
      · show Value.int (mm_up S.2.2.2.1 k p v k q) = _
        unfold mm_up
        rw [if_pos rfl, if_neg e]
      · rfl
      · rfl
  · unfold mm_ce
    split
    · next c _ =>
      have : mm_fl ad (S.1, S.2.1, S.2.2.1, mm_up S.2.2.2.1 k p v, S.2.2.2.2) j c = mm_fl ad S j c := by
        unfold mm_fl
        apply List.map_congr_left
        intro q _
        unfold mm_fv
        split
        · show Value.int (mm_up S.2.2.2.1 k p v j q) = _
          unfold mm_up
          rw [if_neg hj]
        · rfl
        · rfl
      rw [this]
    · rfl
theorem mm_wf_J {ci p k : Nat} {v : Int64} {S : mm_S} (hkd : mm_kd ci p = 1) : mm_wf ci p k (.long v) S (S.1, S.2.1, S.2.2.1, S.2.2.2.1, mm_up S.2.2.2.2.1 k p v, S.2.2.2.2.2) := by
  refine ⟨rfl, rfl, fun ad q => ?_, fun ad tc j hj => ?_, fun h _ => h⟩
  · unfold mm_fv
    by_cases e : q = p
    · subst e
      rw [hkd, if_pos rfl]
      show Value.long (mm_up S.2.2.2.2.1 k q v k q) = .long v
      unfold mm_up
      rw [if_pos rfl, if_pos rfl]
    · rw [if_neg e]
      split
      · rfl
      · show Value.long (mm_up S.2.2.2.2.1 k p v k q) = _
        unfold mm_up
        rw [if_pos rfl, if_neg e]
      · rfl
  · unfold mm_ce
    split
    · next c _ =>
      have : mm_fl ad (S.1, S.2.1, S.2.2.1, S.2.2.2.1, mm_up S.2.2.2.2.1 k p v, S.2.2.2.2.2) j c = mm_fl ad S j c := by
        unfold mm_fl
        apply List.map_congr_left
        intro q _
        unfold mm_fv
        split
        · rfl
        · show Value.long (mm_up S.2.2.2.2.1 k p v j q) = _
          unfold mm_up
          rw [if_neg hj]
        · rfl
      rw [this]
    · rfl
theorem mm_wf_R {ci p k v : Nat} {S : mm_S} (hkd : mm_kd ci p = 2) : mm_wf ci p k (.ref v) S (S.1, S.2.1, mm_up S.2.2.1 k p (.ref v), S.2.2.2) := by
  refine ⟨rfl, rfl, fun ad q => ?_, fun ad tc j hj => ?_, fun h hv a b => ?_⟩
  · unfold mm_fv
    by_cases e : q = p
    · subst e
      rw [hkd, if_pos rfl]
      show mm_cv ad (mm_up S.2.2.1 k q (.ref v) k q) = _
      unfold mm_up
      rw [if_pos rfl, if_pos rfl]
    · rw [if_neg e]
      split
      · rfl
      · rfl
      · show mm_cv ad (mm_up S.2.2.1 k p (.ref v) k q) = _
        unfold mm_up
        rw [if_pos rfl, if_neg e]
  · unfold mm_ce
    split
    · next c _ =>
      have : mm_fl ad (S.1, S.2.1, mm_up S.2.2.1 k p (.ref v), S.2.2.2) j c = mm_fl ad S j c := by
        unfold mm_fl
        apply List.map_congr_left
        intro q _
        unfold mm_fv
        split
        · rfl
        · rfl
        · show mm_cv ad (mm_up S.2.2.1 k p (.ref v) j q) = _
          unfold mm_up
          rw [if_neg hj]
      rw [this]
    · rfl
  · show mm_vk S.1 (mm_up S.2.2.1 k p (.ref v) a b)
    unfold mm_up
    split
    · split
      · exact hv
      · exact h a b
    · exact h a b
theorem mm_r_pfI (X : mm_X x) {index ci p N : Nat} {C ref : String} {T : u_T} (hkd : mm_kd ci p = 0) (hty : mm_ty ci p = .int)
    (hc : vwCl[ci]? = some (C, T, N)) (hp : p < N) (d : decode (mm_xk x) pc = .ok (.putfield index, 3)) (hw : Cond.fieldLink (mm_xo x) index ref (T p).2.1 (T p).2.2.1 ∈ mm_ws) (href : (T p).1 = ref) (hfin : (T p).2.2.2 = false) : mm_row x Q Tg pc (mm_pfI (pc + 3) ci p) := by
  refine mm_pf_r X (ci := ci) (p := p) (fun L st S => ?_) hc hp
  unfold mm_pfI
  split
  · next v k r =>
    cases h : mm_isO S k ci with
    | false => exact Or.inl rfl
    | true =>
      refine Or.inr ⟨.int v, k, r, _, rfl, h, rfl, mm_wf_I hkd, fun ad H locs cells slots ls hP hD hS he kk => ?_⟩
      exact va_put (ty := .int) X.1 X.2.1 X.2.2.2.2.1 (mm_uws hc) (mm_ty ci) (mm_cl_ty hc).1 (mm_cl_ty hc).2 X.2.2.2.1 X.2.2.2.2.2.1 hP hD hS k he hc p hp (X.2.2.2.2.1 _ hw) (fun _ h => by rw [← href]; exact h) hfin (by rw [(mm_cl_ty hc).1 p hp, hty]) rfl rfl (by rw [mm_fl_len, mm_nf_eq hc]; exact hp) d kk
  · exact Or.inl rfl
theorem mm_r_pfZ (X : mm_X x) {index ci p N : Nat} {C ref : String} {T : u_T} (hkd : mm_kd ci p = 0) (hty : mm_ty ci p = .boolean)
    (hc : vwCl[ci]? = some (C, T, N)) (hp : p < N) (d : decode (mm_xk x) pc = .ok (.putfield index, 3)) (hw : Cond.fieldLink (mm_xo x) index ref (T p).2.1 (T p).2.2.1 ∈ mm_ws) (href : (T p).1 = ref) (hfin : (T p).2.2.2 = false) : mm_row x Q Tg pc (mm_pfZ (pc + 3) ci p) := by
  refine mm_pf_r X (ci := ci) (p := p) (fun L st S => ?_) hc hp
  unfold mm_pfZ
  split
  · next v k r =>
    cases h : mm_isO S k ci with
    | false => exact Or.inl rfl
    | true =>
      by_cases hv : v = 0 ∨ v = 1
      · refine Or.inr ⟨.int v, k, r, _, rfl, h, by rw [cond_true, if_pos hv], mm_wf_I hkd, fun ad H locs cells slots ls hP hD hS he kk => ?_⟩
        exact va_put (ty := .boolean) X.1 X.2.1 X.2.2.2.2.1 (mm_uws hc) (mm_ty ci) (mm_cl_ty hc).1 (mm_cl_ty hc).2 X.2.2.2.1 X.2.2.2.2.2.1 hP hD hS k he hc p hp (X.2.2.2.2.1 _ hw) (fun _ h => by rw [← href]; exact h) hfin (by rw [(mm_cl_ty hc).1 p hp, hty]) (mm_narZ hv).1 (mm_narZ hv).2 (by rw [mm_fl_len, mm_nf_eq hc]; exact hp) d kk
      · exact Or.inl (by rw [cond_true, if_neg hv])
  · exact Or.inl rfl
theorem mm_r_pfJ (X : mm_X x) {index ci p N : Nat} {C ref : String} {T : u_T} (hkd : mm_kd ci p = 1) (hty : mm_ty ci p = .long)
    (hc : vwCl[ci]? = some (C, T, N)) (hp : p < N) (d : decode (mm_xk x) pc = .ok (.putfield index, 3)) (hw : Cond.fieldLink (mm_xo x) index ref (T p).2.1 (T p).2.2.1 ∈ mm_ws) (href : (T p).1 = ref) (hfin : (T p).2.2.2 = false) : mm_row x Q Tg pc (mm_pfJ (pc + 3) ci p) := by
  refine mm_pf_r X (ci := ci) (p := p) (fun L st S => ?_) hc hp
  unfold mm_pfJ
  split
  · next v k r =>
    cases h : mm_isO S k ci with
    | false => exact Or.inl rfl
    | true =>
      refine Or.inr ⟨.long v, k, r, _, rfl, h, rfl, mm_wf_J hkd, fun ad H locs cells slots ls hP hD hS he kk => ?_⟩
      exact va_put (ty := .long) X.1 X.2.1 X.2.2.2.2.1 (mm_uws hc) (mm_ty ci) (mm_cl_ty hc).1 (mm_cl_ty hc).2 X.2.2.2.1 X.2.2.2.2.2.1 hP hD hS k he hc p hp (X.2.2.2.2.1 _ hw) (fun _ h => by rw [← href]; exact h) hfin (by rw [(mm_cl_ty hc).1 p hp, hty]) rfl rfl (by rw [mm_fl_len, mm_nf_eq hc]; exact hp) d kk
  · exact Or.inl rfl
theorem mm_nar_ref {ty : FieldType} {a : Nat} (h : ∀ t, ty = .array t ∨ (∃ C, ty = .object C) → True) (h2 : (∃ t, ty = .array t) ∨ ∃ C, ty = .object C) : narrow ty (.ref a) = .ref a ∧ fits ty (.ref a) = true := by
  rcases h2 with ⟨t, rfl⟩ | ⟨C, rfl⟩ <;> exact ⟨rfl, rfl⟩
/-- a final field of references, in its constructor -/
theorem mm_r_pfR (X : mm_X x) {index ci p N : Nat} {C ref : String} {T : u_T} (hkd : mm_kd ci p = 2) (hty : (∃ t, mm_ty ci p = .array t) ∨ ∃ C, mm_ty ci p = .object C) (hin : (mm_xh x).name = "<init>") (hdecl : (T p).1 = mm_xo x)
    (hc : vwCl[ci]? = some (C, T, N)) (hp : p < N) (d : decode (mm_xk x) pc = .ok (.putfield index, 3)) (hw : Cond.fieldLink (mm_xo x) index ref (T p).2.1 (T p).2.2.1 ∈ mm_ws) (href : (T p).1 = ref) (hfin : (T p).2.2.2 = true) : mm_row x Q Tg pc (mm_pfR (pc + 3) ci p) := by
  refine mm_pf_r X (ci := ci) (p := p) (fun L st S => ?_) hc hp
  unfold mm_pfR
  split
  · next v k r =>
    cases h : mm_isO S k ci with
    | false => exact Or.inl rfl
    | true =>
      refine Or.inr ⟨.ref v, k, r, _, rfl, h, rfl, mm_wf_R hkd, fun ad H locs cells slots ls hP hD hS he kk => ?_⟩
      exact va_putF (ty := mm_ty ci p) X.1 X.2.1 X.2.2.2.2.1 (mm_uws hc) (mm_ty ci) (mm_cl_ty hc).1 (mm_cl_ty hc).2 X.2.2.2.1 X.2.2.2.2.2.1 hP hD hS k he hc p hp (X.2.2.2.2.1 _ hw) (fun _ h => by rw [← href]; exact h) hfin hin hdecl ((mm_cl_ty hc).1 p hp) (mm_nar_ref (fun _ _ => trivial) hty).1 (mm_nar_ref (fun _ _ => trivial) hty).2 (by rw [mm_fl_len, mm_nf_eq hc]; exact hp) d kk
  · exact Or.inl rfl
end ROWS3
