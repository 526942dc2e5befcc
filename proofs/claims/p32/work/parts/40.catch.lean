/-! the law's own methods: calls whose throws are caught; methods with a table -/
def mm_hdl (L : mm_L) (S' : mm_S) : Option (Nat × Nat × Nat) → Option (mm_C ⊕ mm_R)
  | some q => some (.inl (q.2.1, (mm_s0 L q.2.2).set q.2.2 none, [], S'))
  | none => none
def mm_clC (n ci na : Nat) (f : mm_F) (hs : List (Nat × Nat × Nat)) : mm_I := fun L st S => match (st.take (na + 1)).reverse with
  | .ref k :: as => bif mm_isO S k ci && Nat.ble (na + 1) st.length && Nat.ble (mm_cat (st.drop (na + 1))) 8 then (match f (.ref k :: as) S with
    | some (.inl v, S') => some (.inl (n, L, v.toList ++ st.drop (na + 1), S'))
    | some (.inr E, S') => mm_hdl L S' (hs.find? (fun q => Nat.beq q.1 E))
    | none => none) else none
  | _ => none
theorem mm_n_clC (n ci na : Nat) (hs : List (Nat × Nat × Nat)) {f : mm_F} (h : mm_Mo f) : mm_mn (mm_clC n ci na f hs) := by
  intro L st S
  constructor <;> intro z e <;> (unfold mm_clC mm_hdl at e) <;> (try simp only [Bool.cond_eq_ite] at e) <;> (repeat' split at e) <;> first | (cases e; done) | (cases e; exact h _ _ _ (by assumption))
def mm_clCS (n na : Nat) (f : mm_F) (hs : List (Nat × Nat × Nat)) : mm_I := fun L st S => bif Nat.ble na st.length && Nat.ble (mm_cat (st.drop na)) 8 then (match f (st.take na).reverse S with
    | some (.inl v, S') => some (.inl (n, L, v.toList ++ st.drop na, S'))
    | some (.inr E, S') => mm_hdl L S' (hs.find? (fun q => Nat.beq q.1 E))
    | none => none) else none
theorem mm_n_clCS (n na : Nat) (hs : List (Nat × Nat × Nat)) {f : mm_F} (h : mm_Mo f) : mm_mn (mm_clCS n na f hs) := by
  intro L st S
  constructor <;> intro z e <;> (unfold mm_clCS mm_hdl at e) <;> (try simp only [Bool.cond_eq_ite] at e) <;> (repeat' split at e) <;> first | (cases e; done) | (cases e; exact h _ _ _ (by assumption))
/-- handlers and the rows of the method's table, one by one -/
def mm_ht (x : mm_cx) (pc : Nat) : List (Nat × Nat × Nat) → List (Nat × Nat × Nat × Nat) → Prop
  | [], [] => True
  | q :: hs, z :: hh => ((q.1 = 1 ∨ q.1 = 2 ∨ q.1 = 3) ∧ (z.1 ≤ pc ∧ pc < z.2.1) ∧ z.2.2.2 ≠ 0 ∧ Cond.classLink (mm_xo x) z.2.2.2 (mm_xn q.1) ∈ mm_ws ∧ q.2.2 < mm_xn' x ∧ ((∃ k : Fin 4, decode (mm_xk x) z.2.2.1 = .ok (.astore_n k, 1) ∧ (k : Nat) = q.2.2 ∧ q.2.1 = z.2.2.1 + 1) ∨ (decode (mm_xk x) z.2.2.1 = .ok (.astore q.2.2, 2) ∧ q.2.1 = z.2.2.1 + 2))) ∧ mm_ht x pc hs hh
  | _, _ => False
theorem mm_ht_find {x : mm_cx} {pc E : Nat} {q : Nat × Nat × Nat} : ∀ (hs : List (Nat × Nat × Nat)) (hh : List (Nat × Nat × Nat × Nat)), mm_ht x pc hs hh → hs.find? (fun q => Nat.beq q.1 E) = some q →
    q.1 = E ∧ ∃ pre z suf, tableOf hh = pre ++ z :: suf ∧ (∀ w ∈ pre, w.catchType ≠ 0 ∧ ∃ E', (E' = 1 ∨ E' = 2 ∨ E' = 3) ∧ E' ≠ E ∧ Cond.classLink (mm_xo x) w.catchType (mm_xn E') ∈ mm_ws) ∧ (q.1 = 1 ∨ q.1 = 2 ∨ q.1 = 3) ∧ covers z pc = true ∧ z.catchType ≠ 0 ∧ Cond.classLink (mm_xo x) z.catchType (mm_xn q.1) ∈ mm_ws ∧ q.2.2 < mm_xn' x ∧
      ((∃ k : Fin 4, decode (mm_xk x) z.handlerPc = .ok (.astore_n k, 1) ∧ (k : Nat) = q.2.2 ∧ q.2.1 = z.handlerPc + 1) ∨ (decode (mm_xk x) z.handlerPc = .ok (.astore q.2.2, 2) ∧ q.2.1 = z.handlerPc + 2)) := by
  intro hs
  induction hs with
  | nil => intro hh _ h; cases h
  | cons a hs ih =>
    intro hh ht h
    cases hh with
    | nil => exact ht.elim
    | cons z hh =>
      obtain ⟨⟨h1, h2, h3, h4, h5, h6⟩, ht⟩ := ht
      rw [List.find?_cons] at h
      split at h
      · next hb =>
        cases h
        refine ⟨Nat.eq_of_beq_eq_true hb, [], ⟨z.1, z.2.1, z.2.2.1, z.2.2.2⟩, tableOf hh, rfl, fun w hw => (by cases hw), h1, ?_, h3, h4, h5, h6⟩
        simp only [covers, decide_eq_true h2.1, decide_eq_true h2.2, Bool.and_self]
      · next hb =>
        obtain ⟨e, pre, w, suf, k1, k2, k3⟩ := ih hh ht h
        refine ⟨e, ⟨z.1, z.2.1, z.2.2.1, z.2.2.2⟩ :: pre, w, suf, ?_, fun u hu => ?_, k3⟩
        · show _ :: tableOf hh = _
          rw [k1]
          rfl
        · rcases List.mem_cons.mp hu with e2 | e2
          · rw [e2]
            refine ⟨h3, a.1, h1, fun e3 => ?_, h4⟩
            rw [e3] at hb
            have hb : Nat.beq E E = false := hb
            rw [Nat.beq_refl] at hb
            cases hb
          · exact k2 u e2
section CATCH
variable {x : mm_cx} {Q : State → Prop} {Tg : mm_R} {pc : Nat}
theorem mm_LH.off {ad : Nat → Nat} {ls' : Array Slot} {nL i : Nat} {L : mm_L} {v : Value} (h : lv_has ls' nL ((i, v) :: (mm_as ad L).filter (fun q => !(q.1 == i) && !(q.1 + 1 == i && q.2.category == 2)))) : mm_LH ad ls' nL ((mm_s0 L i).set i none) := by
  refine ⟨h.1, h.2.1, fun j w e => ?_⟩
  rw [List.getElem?_set] at e
  split at e
  · next hj =>
    subst hj
    split at e
    · cases e
    · cases e
  · next hj =>
    obtain ⟨e1, e2⟩ := mm_s0_get e
    refine h.2.2 (j, mm_cv ad w) (List.mem_cons_of_mem _ (List.mem_filter.mpr ⟨mm_as_mem.mpr ⟨w, e1, rfl⟩, ?_⟩))
    have a : (j == i) = false := by simp; omega
    have b : (j + 1 == i && (mm_cv ad w).category == 2) = false := by
      rw [mm_cv_cat]
      cases hq : (j + 1 == i && w.category == 2) with
      | false => rfl
      | true =>
        simp only [Bool.and_eq_true, beq_iff_eq] at hq
        exact absurd hq e2
    show (!(j == i) && !(j + 1 == i && (mm_cv ad w).category == 2)) = true
    rw [a, b]
    rfl
theorem mm_off_vk {L : mm_L} {i n : Nat} (hL : ∀ (j : Nat) (w : Value), L[j]? = some (some w) → mm_vk n w) : ∀ (j : Nat) (w : Value), ((mm_s0 L i).set i none)[j]? = some (some w) → mm_vk n w := by
  intro j w e
  rw [List.getElem?_set] at e
  split at e
  · split at e
    · cases e
    · cases e
  · exact hL j w (mm_s0_get e).1
theorem mm_r_clC (X : mm_X x) {index ci na N mL fr lo : Nat} {C : String} {T : u_T} {y : MethodName} {b : ByteArray} {ret : Option FieldType} {f : mm_F} {hs : List (Nat × Nat × Nat)} {hh : List (Nat × Nat × Nat × Nat)} (htab : (mm_xc x).exceptionTable.toList = tableOf hh) (hht : mm_ht x pc hs hh) (hS : mm_Snd (mm_xl x) y (.code y b mL ret) fr lo f) (hc : vwCl[ci]? = some (C, T, N)) (d : decode (mm_xk x) pc = .ok (.invokevirtual index, 3))
    (hcode : Cond.code y b mL ret ∈ mm_ws) (h1 : Cond.methodLink (mm_xo x) index y ∈ mm_ws) (h2 : Cond.instanceMethod y ∈ mm_ws) (h3 : Cond.selects C y y ∈ mm_ws) (h4 : Cond.initialized C ∈ mm_ws)
    (hd : y.cls = C ∧ y.cls ≠ "java/lang/invoke/MethodHandle" ∧ y.cls ≠ "java/lang/invoke/VarHandle" ∧ (parseMethodDescriptor y.desc).map (fun d => d.parameters.length) = some na) (hR9 : fr + 1 ≤ (mm_xR x).frames ∧ 8 + (mL + 11) + lo ≤ (mm_xR x).locals) : mm_row x Q Tg pc (mm_clC (pc + 3) ci na f hs) := by
  intro L st S
  unfold mm_clC
  split
  · next k as hst =>
    cases hb : (mm_isO S k ci && Nat.ble (na + 1) st.length && Nat.ble (mm_cat (st.drop (na + 1))) 8) with
    | false => exact ⟨fun c' e => (by cases e), fun r e => (by cases e)⟩
    | true =>
      rw [Bool.and_eq_true, Bool.and_eq_true] at hb
      obtain ⟨⟨hO, hlen⟩, hcat⟩ := hb
      rw [cond_true]
      cases hf : f (.ref k :: as) S with
      | none => exact ⟨fun c' e => (by cases e), fun r e => (by cases e)⟩
      | some r =>
        have hle : mm_le S r.2 := hS.1 _ S r hf
        have hn : as.length = na := by
          have h8 := congrArg List.length hst
          rw [List.length_reverse, List.length_take] at h8
          have := Nat.le_of_ble_eq_true hlen
          rw [List.length_cons] at h8
          omega
        have hrest : ∀ v ∈ st.drop (na + 1), v ∈ st := fun v h => List.mem_of_mem_drop h
        have hrun : ∀ ad H locs cells slots ls, mm_Rp x ad S L st H locs cells slots ls → mm_rm x r.2 → vx_Run (mm_xp x) (mm_xl x) (mm_xe x) (mm_xR x) (mm_xs x) (mm_xm x) (mm_xa x) (mm_xb x) (mm_xh x) (mm_xc x) H locs cells slots (mm_nc r.2 - mm_nc S) (mm_ns r.2 - mm_ns S) (F0 (mm_xm x) pc ls (st.map (mm_cv ad))) ((st.drop (na + 1)).map (mm_cv ad)) (mm_Qc (mm_xD x) (mm_xt x) ad S (va_A (mm_w ad (mm_xt x) S) H.size) r (Value.ref (ad k) :: as.map (mm_cv ad)).toArray) (mm_XC (mm_xD x) (mm_xt x) ad S (va_A (mm_w ad (mm_xt x) S) H.size) r) (va_A (mm_w ad (mm_xt x) S) H.size) := by
          intro ad H locs cells slots ls hRp hrm
          obtain ⟨hlt, hlay⟩ := mm_isO_spec hO
          have he := mm_w_get (ad := ad) (tc := mm_xt x) hlt
          rw [mm_ce_O hlay] at he
          have hp := mm_pre (as := .ref k :: as) X hRp (av := .ref (ad k) :: as.map (mm_cv ad)) rfl
          refine vx_runV (As := as.map (mm_cv ad)) (b := ad k) (nL := mm_xn' x) ⟨X.1, X.2.1, X.2.2.1, X.2.2.2.1, X.2.2.2.2.1⟩ (hS.2 (mm_xD x) (mm_xt x) ad S (.ref k :: as) r H.size hf (fun v h => hRp.2.2.2.2.2.2.2.1 v (mm_take_rev v (by rw [hst]; exact h))) hRp.2.2.2.2.2.2.2.2.2.1)
            (cwV na X.2.2.2.2.1 (fun w hw => ?_) rfl rfl rfl hd hR9) ⟨hp.1, va_recv X.2.2.2.2.2.1 hRp.1 hc he, hp.2⟩ rfl (by rw [List.length_map, hn]) hRp.2.2.2.1.1 ?_ (by rw [mm_cv_sum]; show 2 * 0 + mm_cat _ ≤ 8; have := Nat.le_of_ble_eq_true hcat; omega) d ?_
          · rcases List.mem_append.mp hw with e | e
            · simp only [List.mem_cons, List.not_mem_nil, or_false] at e
              rcases e with rfl | rfl | rfl | rfl
              · exact ⟨h1, good_of_word rfl⟩
              · exact ⟨h2, good_of_word rfl⟩
              · exact ⟨h3, good_of_word rfl⟩
              · exact ⟨h4, good_of_word rfl⟩
            · exact mm_cwB X hcode w e
          · show st.map (mm_cv ad) = _
            conv => lhs; rw [mm_split (st := st) (n := na + 1), hst]
            rw [List.reverse_cons, List.map_append, List.map_append, List.map_reverse, List.append_assoc]
            rfl
          · have h5 := hRp.2.2.2.2.1
            have h6 := hRp.2.2.2.2.2.1
            have h7 := hRp.2.2.2.2.2.2.1
            have := h7.nc
            have := h7.ns
            have := hle.nc
            have := hle.ns
            have := hrm.1
            have := hrm.2
            omega
        obtain ⟨o, S'⟩ := r
        cases o with
        | inl v =>
          refine ⟨fun c' e => ?_, fun r e => (by cases e)⟩
          cases e
          refine ⟨hle, fun ad H locs cells slots ls hR hrm kk => ?_⟩
          have hr := hrun ad H locs cells slots ls hR hrm
          have hA := mm_subA X hR
          have nox : ∀ (E : String) (ce : Cell) (q9 : Addr) (u : Unit) (t : State) (H1 : Heap) (locs1 : List Loc), t.heap = H1 → (mm_xs x).vm.Alike t.vm → True → ((∃ k, (Sum.inl v : Option Value ⊕ Nat) = .inr k ∧ E = mm_xn k) ∧ mm_Wd (mm_xD x) (mm_xt x) ad S S' (va_A (mm_w ad (mm_xt x) S) H.size) t) → False := by
            rintro E ce q9 u t H1 locs1 - - - ⟨⟨k, hk, -⟩, -⟩
            cases hk
          cases v with
          | none =>
            refine vx_callv (a := (Value.ref (ad k) :: as.map (mm_cv ad)).toArray) hr hR.2.2.1 (fun q _ h => hA q h) hA (fun q _ h => hA q h) (fun E ce q9 u t H1 locs1 g1 g2 g3 g4 _ _ _ _ _ _ => (nox E ce q9 u t H1 locs1 g1 g2 g3 g4).elim) (fun u t H1 locs1 ht hvm hw hB hz1 hk1 hS => ?_)
            obtain ⟨ad', a1, a2, a3, a4, a5, a6⟩ := hB
            rw [ht] at a3
            obtain ⟨b1, b2⟩ := mm_behind X hR hle hA hrest a1 a2 a3 a5 a6 hS
            rw [← b2]
            exact kk ad' H1 locs1 _ _ ls b1
          | some w =>
            cases w with
            | int z =>
              refine vx_calli (a := (Value.ref (ad k) :: as.map (mm_cv ad)).toArray) hr hR.2.2.1 (fun q _ h => hA q h) hA (fun q _ h => hA q h) (fun E ce q9 u t H1 locs1 g1 g2 g3 g4 _ _ _ _ _ _ => (nox E ce q9 u t H1 locs1 g1 g2 g3 g4).elim) (fun z2 u t H1 locs1 ht hvm hw hB hz1 hk1 hS => ?_)
              obtain ⟨ad', a1, a2, a3, a4, a5, a6⟩ := hB
              rw [ht] at a3
              obtain ⟨b1, b2⟩ := mm_behind X hR hle hA hrest a1 a2 a3 a5 a6 hS
              have hw : z2 = z := hw
              rw [← b2, hw]
              refine kk ad' H1 locs1 _ _ ls ?_
              obtain ⟨r1, r2, r3, r4, r5, r6, r7, r8, r9⟩ := b1
              refine ⟨r1, r2, r3, r4, r5, r6, r7, fun v hm => ?_, r9⟩
              rcases List.mem_cons.mp hm with e | e
              · rw [e]; exact fun j e => (by cases e)
              · exact r8 v e
            | long z =>
              refine vx_calll (a := (Value.ref (ad k) :: as.map (mm_cv ad)).toArray) hr hR.2.2.1 (fun q _ h => hA q h) hA (fun q _ h => hA q h) (fun E ce q9 u t H1 locs1 g1 g2 g3 g4 _ _ _ _ _ _ => (nox E ce q9 u t H1 locs1 g1 g2 g3 g4).elim) (fun z2 u t H1 locs1 ht hvm hw hB hz1 hk1 hS => ?_)
              obtain ⟨ad', a1, a2, a3, a4, a5, a6⟩ := hB
              rw [ht] at a3
              obtain ⟨b1, b2⟩ := mm_behind X hR hle hA hrest a1 a2 a3 a5 a6 hS
              have hw : z2 = z := hw
              rw [← b2, hw]
              refine kk ad' H1 locs1 _ _ ls ?_
              obtain ⟨r1, r2, r3, r4, r5, r6, r7, r8, r9⟩ := b1
              refine ⟨r1, r2, r3, r4, r5, r6, r7, fun v hm => ?_, r9⟩
              rcases List.mem_cons.mp hm with e | e
              · rw [e]; exact fun j e => (by cases e)
              · exact r8 v e
            | _ => exact vx_callv (a := (Value.ref (ad k) :: as.map (mm_cv ad)).toArray) hr hR.2.2.1 (fun q _ h => hA q h) hA (fun q _ h => hA q h) (fun E ce q9 u t H1 locs1 g1 g2 g3 g4 _ _ _ _ _ _ => (nox E ce q9 u t H1 locs1 g1 g2 g3 g4).elim) (fun u t H1 locs1 ht hvm hw hB hz1 hk1 hS => hw.elim)
        | inr E =>
          show (∀ c' : mm_C, mm_hdl L S' (hs.find? (fun q => Nat.beq q.1 E)) = some (Sum.inl c') → _) ∧ (∀ r : mm_R, mm_hdl L S' (hs.find? (fun q => Nat.beq q.1 E)) = some (Sum.inr r) → _)
          cases hq : hs.find? (fun q => Nat.beq q.1 E) with
          | none => exact ⟨fun c' e => (by cases e), fun r e => (by cases e)⟩
          | some q =>
            refine ⟨fun c' e => ?_, fun r e => (by cases e)⟩
            cases e
            refine ⟨hle, fun ad H locs cells slots ls hR hrm kk => ?_⟩
            have hr := hrun ad H locs cells slots ls hR hrm
            have hA := mm_subA X hR
            refine vx_callv (a := (Value.ref (ad k) :: as.map (mm_cv ad)).toArray) hr hR.2.2.1 (fun q _ h => hA q h) hA (fun q _ h => hA q h) (fun E2 ce q9 u t H1 locs1 ht hvm _ hB hz1 hk1 hS9 hq9 hce hcl => ?_) (fun u t H1 locs1 ht hvm hw hB hz1 hk1 hS => hw.elim)
            obtain ⟨⟨k2, hk2, hE⟩, ad', a1, a2, a3, a4, a5, a6⟩ := hB
            rw [ht] at a3
            have hk2 : Sum.inr E = (Sum.inr k2 : Option Value ⊕ Nat) := hk2
            cases hk2
            obtain ⟨b1, b2⟩ := mm_behind (rest := []) X hR hle hA (fun v h => (by cases h)) a1 a2 a3 a5 a6 hS9
            obtain ⟨eq, pre, z, suf, k1, k2, k3, k4, k5, k6, k7, k8⟩ := mm_ht_find hs hh hht hq
            rw [eq] at k3 k6
            refine vx_catch (own := mm_xo x) (name := mm_xn E) (E := mm_xn E) X.2.2.2.1 pre z suf (htab.trans k1) (fun w hw => ?_) k4 k5 (X.2.2.2.2.1 _ k6) (va_Nw.use rfl (X.2.2.2.2.2.2.2.1.2.2.1 E k3)) hq9 hce (by rw [← hE]; exact hcl) ?_
            · obtain ⟨w1, E', w2, w3, w4⟩ := k2 w hw
              exact Or.inr ⟨w1, mm_xn E', X.2.2.2.2.1 _ w4, X.2.2.2.2.2.2.2.1.2.2.2.1 E E' k3 w2 (fun e => w3 e.symm)⟩
            · have fin : ∀ ls', lv_has ls' (mm_xn' x) ((q.2.2, .ref q9) :: (mm_as ad' L).filter (fun p => !(p.1 == q.2.2) && !(p.1 + 1 == q.2.2 && p.2.category == 2))) → mm_Rp x ad' S' ((mm_s0 L q.2.2).set q.2.2 none) [] H1 locs1 (cells + (mm_nc S' - mm_nc S)) (slots + (mm_ns S' - mm_ns S)) ls' := by
                intro ls' hl
                obtain ⟨r1, r2, r3, r4, r5, r6, r7, r8, r9, r10⟩ := b1
                exact ⟨r1, r2, r3, mm_LH.off hl, r5, r6, r7, r8, mm_off_vk r9, r10⟩
              rcases k8 with ⟨kf, d1, d2, d3⟩ | ⟨d1, d2⟩
              · refine lv_astore_n X.1 X.2.1 d1 d2 b1.2.2.2.1.has k7 rfl (fun ls' hl => ?_)
                have := kk ad' H1 locs1 _ _ ls' (fin ls' hl)
                rw [← d3]
                exact this
              · refine lv_astore X.1 X.2.1 d1 b1.2.2.2.1.has k7 rfl (fun ls' hl => ?_)
                have := kk ad' H1 locs1 _ _ ls' (fin ls' hl)
                rw [← d2]
                exact this
  · exact ⟨fun c' e => (by cases e), fun r e => (by cases e)⟩
theorem mm_r_clCS (X : mm_X x) {index na mL fr lo : Nat} {y : MethodName} {b : ByteArray} {ret : Option FieldType} {f : mm_F} {hs : List (Nat × Nat × Nat)} {hh : List (Nat × Nat × Nat × Nat)} (htab : (mm_xc x).exceptionTable.toList = tableOf hh) (hht : mm_ht x pc hs hh) (hS : mm_Snd (mm_xl x) y (.code y b mL ret) fr lo f) (d : decode (mm_xk x) pc = .ok (.invokestatic index, 3))
    (hcode : Cond.code y b mL ret ∈ mm_ws) (h1 : Cond.methodLink (mm_xo x) index y ∈ mm_ws) (h2 : Cond.static y ∈ mm_ws) (h4 : Cond.initialized y.cls ∈ mm_ws)
    (hd : y.cls ≠ "java/lang/invoke/MethodHandle" ∧ y.cls ≠ "java/lang/invoke/VarHandle" ∧ (parseMethodDescriptor y.desc).map (fun d => d.parameters.length) = some na) (hR9 : fr + 1 ≤ (mm_xR x).frames ∧ 8 + (mL + 11) + lo ≤ (mm_xR x).locals) : mm_row x Q Tg pc (mm_clCS (pc + 3) na f hs) := by
  intro L st S
  unfold mm_clCS
  obtain ⟨as, has⟩ : ∃ as, as = (st.take na).reverse := ⟨_, rfl⟩
  rw [← has]
  · cases hb : (Nat.ble na st.length && Nat.ble (mm_cat (st.drop na)) 8) with
    | false => exact ⟨fun c' e => (by cases e), fun r e => (by cases e)⟩
    | true =>
      rw [Bool.and_eq_true] at hb
      obtain ⟨hlen, hcat⟩ := hb
      rw [cond_true]
      cases hf : f as S with
      | none => exact ⟨fun c' e => (by cases e), fun r e => (by cases e)⟩
      | some r =>
        have hle : mm_le S r.2 := hS.1 _ S r hf
        have hn : as.length = na := by
          rw [has, List.length_reverse, List.length_take]
          have := Nat.le_of_ble_eq_true hlen
          omega
        have hin : ∀ v ∈ as, v ∈ st := fun v h => mm_take_rev v (by rw [← has]; exact h)
        have hrest : ∀ v ∈ st.drop na, v ∈ st := fun v h => List.mem_of_mem_drop h
        have hrun : ∀ ad H locs cells slots ls, mm_Rp x ad S L st H locs cells slots ls → mm_rm x r.2 → vx_Run (mm_xp x) (mm_xl x) (mm_xe x) (mm_xR x) (mm_xs x) (mm_xm x) (mm_xa x) (mm_xb x) (mm_xh x) (mm_xc x) H locs cells slots (mm_nc r.2 - mm_nc S) (mm_ns r.2 - mm_ns S) (F0 (mm_xm x) pc ls (st.map (mm_cv ad))) ((st.drop na).map (mm_cv ad)) (mm_Qc (mm_xD x) (mm_xt x) ad S (va_A (mm_w ad (mm_xt x) S) H.size) r (as.map (mm_cv ad)).toArray) (mm_XC (mm_xD x) (mm_xt x) ad S (va_A (mm_w ad (mm_xt x) S) H.size) r) (va_A (mm_w ad (mm_xt x) S) H.size) := by
          intro ad H locs cells slots ls hRp hrm
          have hsp : st.map (mm_cv ad) = (as.map (mm_cv ad)).reverse ++ (st.drop na).map (mm_cv ad) := by
            conv => lhs; rw [mm_split (st := st) (n := na), ← has]
            rw [List.map_append, List.map_reverse]
          refine vx_runS (nL := mm_xn' x) ⟨X.1, X.2.1, X.2.2.1, X.2.2.2.1, X.2.2.2.2.1⟩ (hS.2 (mm_xD x) (mm_xt x) ad S as r H.size hf (fun v h => hRp.2.2.2.2.2.2.2.1 v (hin v h)) hRp.2.2.2.2.2.2.2.2.2.1)
            (va_cwS na X.2.2.2.2.1 (fun w hw => ?_) rfl rfl rfl hd hR9) (mm_pre X hRp rfl) rfl (by rw [List.length_map, hn]) hRp.2.2.2.1.1 hsp (by rw [mm_cv_sum]; show 2 * 0 + mm_cat _ ≤ 8; have := Nat.le_of_ble_eq_true hcat; omega) d ?_
          · rcases List.mem_append.mp hw with e | e
            · simp only [List.mem_cons, List.not_mem_nil, or_false] at e
              rcases e with rfl | rfl | rfl
              · exact ⟨h1, good_of_word rfl⟩
              · exact ⟨h2, good_of_word rfl⟩
              · exact ⟨h4, good_of_word rfl⟩
            · exact mm_cwB X hcode w e
          · have h5 := hRp.2.2.2.2.1
            have h6 := hRp.2.2.2.2.2.1
            have h7 := hRp.2.2.2.2.2.2.1
            have := h7.nc
            have := h7.ns
            have := hle.nc
            have := hle.ns
            have := hrm.1
            have := hrm.2
            omega
        obtain ⟨o, S'⟩ := r
        cases o with
        | inl v =>
          refine ⟨fun c' e => ?_, fun r e => (by cases e)⟩
          cases e
          refine ⟨hle, fun ad H locs cells slots ls hR hrm kk => ?_⟩
          have hr := hrun ad H locs cells slots ls hR hrm
          have hA := mm_subA X hR
          have nox : ∀ (E : String) (ce : Cell) (q9 : Addr) (u : Unit) (t : State) (H1 : Heap) (locs1 : List Loc), t.heap = H1 → (mm_xs x).vm.Alike t.vm → True → ((∃ k, (Sum.inl v : Option Value ⊕ Nat) = .inr k ∧ E = mm_xn k) ∧ mm_Wd (mm_xD x) (mm_xt x) ad S S' (va_A (mm_w ad (mm_xt x) S) H.size) t) → False := by
            rintro E ce q9 u t H1 locs1 - - - ⟨⟨k, hk, -⟩, -⟩
            cases hk
          cases v with
          | none =>
            refine vx_callv (a := (as.map (mm_cv ad)).toArray) hr hR.2.2.1 (fun q _ h => hA q h) hA (fun q _ h => hA q h) (fun E ce q9 u t H1 locs1 g1 g2 g3 g4 _ _ _ _ _ _ => (nox E ce q9 u t H1 locs1 g1 g2 g3 g4).elim) (fun u t H1 locs1 ht hvm hw hB hz1 hk1 hS => ?_)
            obtain ⟨ad', a1, a2, a3, a4, a5, a6⟩ := hB
            rw [ht] at a3
            obtain ⟨b1, b2⟩ := mm_behind X hR hle hA hrest a1 a2 a3 a5 a6 hS
            rw [← b2]
            exact kk ad' H1 locs1 _ _ ls b1
          | some w =>
            cases w with
            | int z =>
              refine vx_calli (a := (as.map (mm_cv ad)).toArray) hr hR.2.2.1 (fun q _ h => hA q h) hA (fun q _ h => hA q h) (fun E ce q9 u t H1 locs1 g1 g2 g3 g4 _ _ _ _ _ _ => (nox E ce q9 u t H1 locs1 g1 g2 g3 g4).elim) (fun z2 u t H1 locs1 ht hvm hw hB hz1 hk1 hS => ?_)
              obtain ⟨ad', a1, a2, a3, a4, a5, a6⟩ := hB
              rw [ht] at a3
              obtain ⟨b1, b2⟩ := mm_behind X hR hle hA hrest a1 a2 a3 a5 a6 hS
              have hw : z2 = z := hw
              rw [← b2, hw]
              refine kk ad' H1 locs1 _ _ ls ?_
              obtain ⟨r1, r2, r3, r4, r5, r6, r7, r8, r9⟩ := b1
              refine ⟨r1, r2, r3, r4, r5, r6, r7, fun v hm => ?_, r9⟩
              rcases List.mem_cons.mp hm with e | e
              · rw [e]; exact fun j e => (by cases e)
              · exact r8 v e
            | long z =>
              refine vx_calll (a := (as.map (mm_cv ad)).toArray) hr hR.2.2.1 (fun q _ h => hA q h) hA (fun q _ h => hA q h) (fun E ce q9 u t H1 locs1 g1 g2 g3 g4 _ _ _ _ _ _ => (nox E ce q9 u t H1 locs1 g1 g2 g3 g4).elim) (fun z2 u t H1 locs1 ht hvm hw hB hz1 hk1 hS => ?_)
              obtain ⟨ad', a1, a2, a3, a4, a5, a6⟩ := hB
              rw [ht] at a3
              obtain ⟨b1, b2⟩ := mm_behind X hR hle hA hrest a1 a2 a3 a5 a6 hS
              have hw : z2 = z := hw
              rw [← b2, hw]
              refine kk ad' H1 locs1 _ _ ls ?_
              obtain ⟨r1, r2, r3, r4, r5, r6, r7, r8, r9⟩ := b1
              refine ⟨r1, r2, r3, r4, r5, r6, r7, fun v hm => ?_, r9⟩
              rcases List.mem_cons.mp hm with e | e
              · rw [e]; exact fun j e => (by cases e)
              · exact r8 v e
            | _ => exact vx_callv (a := (as.map (mm_cv ad)).toArray) hr hR.2.2.1 (fun q _ h => hA q h) hA (fun q _ h => hA q h) (fun E ce q9 u t H1 locs1 g1 g2 g3 g4 _ _ _ _ _ _ => (nox E ce q9 u t H1 locs1 g1 g2 g3 g4).elim) (fun u t H1 locs1 ht hvm hw hB hz1 hk1 hS => hw.elim)
        | inr E =>
          show (∀ c' : mm_C, mm_hdl L S' (hs.find? (fun q => Nat.beq q.1 E)) = some (Sum.inl c') → _) ∧ (∀ r : mm_R, mm_hdl L S' (hs.find? (fun q => Nat.beq q.1 E)) = some (Sum.inr r) → _)
          cases hq : hs.find? (fun q => Nat.beq q.1 E) with
          | none => exact ⟨fun c' e => (by cases e), fun r e => (by cases e)⟩
          | some q =>
            refine ⟨fun c' e => ?_, fun r e => (by cases e)⟩
            cases e
            refine ⟨hle, fun ad H locs cells slots ls hR hrm kk => ?_⟩
            have hr := hrun ad H locs cells slots ls hR hrm
            have hA := mm_subA X hR
            refine vx_callv (a := (as.map (mm_cv ad)).toArray) hr hR.2.2.1 (fun q _ h => hA q h) hA (fun q _ h => hA q h) (fun E2 ce q9 u t H1 locs1 ht hvm _ hB hz1 hk1 hS9 hq9 hce hcl => ?_) (fun u t H1 locs1 ht hvm hw hB hz1 hk1 hS => hw.elim)
            obtain ⟨⟨k2, hk2, hE⟩, ad', a1, a2, a3, a4, a5, a6⟩ := hB
            rw [ht] at a3
            have hk2 : Sum.inr E = (Sum.inr k2 : Option Value ⊕ Nat) := hk2
            cases hk2
            obtain ⟨b1, b2⟩ := mm_behind (rest := []) X hR hle hA (fun v h => (by cases h)) a1 a2 a3 a5 a6 hS9
            obtain ⟨eq, pre, z, suf, k1, k2, k3, k4, k5, k6, k7, k8⟩ := mm_ht_find hs hh hht hq
            rw [eq] at k3 k6
            refine vx_catch (own := mm_xo x) (name := mm_xn E) (E := mm_xn E) X.2.2.2.1 pre z suf (htab.trans k1) (fun w hw => ?_) k4 k5 (X.2.2.2.2.1 _ k6) (va_Nw.use rfl (X.2.2.2.2.2.2.2.1.2.2.1 E k3)) hq9 hce (by rw [← hE]; exact hcl) ?_
            · obtain ⟨w1, E', w2, w3, w4⟩ := k2 w hw
              exact Or.inr ⟨w1, mm_xn E', X.2.2.2.2.1 _ w4, X.2.2.2.2.2.2.2.1.2.2.2.1 E E' k3 w2 (fun e => w3 e.symm)⟩
            · have fin : ∀ ls', lv_has ls' (mm_xn' x) ((q.2.2, .ref q9) :: (mm_as ad' L).filter (fun p => !(p.1 == q.2.2) && !(p.1 + 1 == q.2.2 && p.2.category == 2))) → mm_Rp x ad' S' ((mm_s0 L q.2.2).set q.2.2 none) [] H1 locs1 (cells + (mm_nc S' - mm_nc S)) (slots + (mm_ns S' - mm_ns S)) ls' := by
                intro ls' hl
                obtain ⟨r1, r2, r3, r4, r5, r6, r7, r8, r9, r10⟩ := b1
                exact ⟨r1, r2, r3, mm_LH.off hl, r5, r6, r7, r8, mm_off_vk r9, r10⟩
              rcases k8 with ⟨kf, d1, d2, d3⟩ | ⟨d1, d2⟩
              · refine lv_astore_n X.1 X.2.1 d1 d2 b1.2.2.2.1.has k7 rfl (fun ls' hl => ?_)
                have := kk ad' H1 locs1 _ _ ls' (fin ls' hl)
                rw [← d3]
                exact this
              · refine lv_astore X.1 X.2.1 d1 b1.2.2.2.1.has k7 rfl (fun ls' hl => ?_)
                have := kk ad' H1 locs1 _ _ ls' (fin ls' hl)
                rw [← d2]
                exact this
theorem mm_r_clSX (X : mm_X x) (hth : mm_Th x Q Tg) {index na mL fr lo : Nat} {y : MethodName} {b : ByteArray} {ret : Option FieldType} {hh : List (Nat × Nat × Nat × Nat)} {f : mm_F} (hS : mm_Snd (mm_xl x) y (.codeWith y b mL ret hh) fr lo f) (d : decode (mm_xk x) pc = .ok (.invokestatic index, 3))
    (hcode : Cond.codeWith y b mL ret hh ∈ mm_ws) (h1 : Cond.methodLink (mm_xo x) index y ∈ mm_ws) (h2 : Cond.static y ∈ mm_ws) (h4 : Cond.initialized y.cls ∈ mm_ws)
    (hd : y.cls ≠ "java/lang/invoke/MethodHandle" ∧ y.cls ≠ "java/lang/invoke/VarHandle" ∧ (parseMethodDescriptor y.desc).map (fun d => d.parameters.length) = some na) (hR9 : fr + 1 ≤ (mm_xR x).frames ∧ 8 + (mL + 11) + lo ≤ (mm_xR x).locals) : mm_row x Q Tg pc (mm_clS (pc + 3) na f) := by
  refine mm_clS_r X hth hS.1 (fun L st S r ad H locs cells slots ls hlen hcat hf hRp hroom hn hsp => ?_)
  refine vx_runSX (nL := mm_xn' x) ⟨X.1, X.2.1, X.2.2.1, X.2.2.2.1, X.2.2.2.2.1⟩ (hS.2 (mm_xD x) (mm_xt x) ad S _ r H.size hf (fun v h => hRp.2.2.2.2.2.2.2.1 v (mm_take_rev v h)) hRp.2.2.2.2.2.2.2.2.2.1)
    (vx_cwSW na X.2.2.2.2.1 (fun w hw => ?_) rfl rfl rfl hd hR9) (mm_pre X hRp rfl) rfl hn hRp.2.2.2.1.1 hsp (by rw [mm_cv_sum]; show 2 * 0 + mm_cat _ ≤ 8; omega) d hroom
  rcases List.mem_append.mp hw with e | e
  · simp only [List.mem_cons, List.not_mem_nil, or_false] at e
    rcases e with rfl | rfl | rfl
    · exact ⟨h1, good_of_word rfl⟩
    · exact ⟨h2, good_of_word rfl⟩
    · exact ⟨h4, good_of_word rfl⟩
  · exact mm_good rfl mm_ws (fun _ h => h) hcode w e
end CATCH
/-- rows of a method with a table -/
def mm_OkH (l : Launch) (y : MethodName) (b : ByteArray) (mL : Nat) (ret : Option FieldType) (hh : List (Nat × Nat × Nat × Nat)) (fr lo : Nat) (ts : List (Nat × mm_I)) : Prop :=
  (∀ q ∈ ts, mm_mn q.2) ∧ ∀ (p : Program) (e : Env) (cells slots : Nat) (s : State) (m : MethodId) (args : Array Value) (below : List Frame) (meth : Method) (c : Code) (D : va_G) (tc : Nat → ClassId) (A : Nat → Prop) (S : mm_S) (ad : Nat → Nat) (Tg : mm_R),
    mm_X (mm_mk p l e { frames := fr, cells := cells, slots := slots, locals := lo } s m args below meth c D tc A S ad b y.cls mL) → meth.sig.returnType = ret → c.exceptionTable.toList = tableOf hh →
    ∀ q ∈ ts, mm_row (mm_mk p l e { frames := fr, cells := cells, slots := slots, locals := lo } s m args below meth c D tc A S ad b y.cls mL) (mm_Q (mm_mk p l e { frames := fr, cells := cells, slots := slots, locals := lo } s m args below meth c D tc A S ad b y.cls mL) Tg) Tg q.1 q.2
theorem mm_metH {l : Launch} {y : MethodName} {b : ByteArray} {mL fr lo : Nat} {ret : Option FieldType} {hh : List (Nat × Nat × Nat × Nat)} {ts : List (Nat × mm_I)} (hl : l.stackTraces = false) (hy : plainName y.cls = true) (hOk : mm_OkH l y b mL ret hh fr lo ts) : mm_Snd l y (.codeWith y b mL ret hh) fr lo (mm_do (mm_pr ts) mL) := by
  have hdo : ∀ as S r, mm_do (mm_pr ts) mL as S = some r → (mm_la as).length ≤ mL ∧ mm_run (mm_pr ts) (0, mm_en mL as, [], S) = some r := by
    intro as S r h
    unfold mm_do at h
    cases hb : Nat.ble (mm_la as).length mL with
    | false => rw [hb] at h; cases h
    | true => rw [hb] at h; exact ⟨Nat.le_of_ble_eq_true hb, h⟩
  have hmo : mm_Mo (mm_do (mm_pr ts) mL) := mm_do_mo hOk.1
  refine ⟨hmo, fun D tc ad S as r sz hf hv hRv => ?_⟩
  refine vx_ofWH (cc := b) (maxL := mL) (ret := ret) (hh := hh) hy rfl ?_
  intro p e s m args below meth c s₁ B hml hPc
  obtain ⟨rfl, hsz, hP, hK, hD, hEX, hO⟩ := hPc
  subst hsz
  have hts := atoms_spec (ws := Cond.codeWith y b mL ret hh :: mm_ws) B.pre
  have X : mm_X (mm_mk p l e { frames := fr, cells := mm_nc r.2 - mm_nc S, slots := mm_ns r.2 - mm_ns S, locals := lo } s m (as.map (mm_cv ad)).toArray below meth c D tc (va_A (mm_w ad tc S) s.heap.size) S ad b y.cls mL) :=
    ⟨B.exec, B.bytes, hml, findClass_of_methodNamed B.named, fun w hw => hts w (List.mem_cons_of_mem _ hw), hK, fun q h => Or.inr h, hEX, hO, B.notSynchronized, hl⟩
  have hrows := hOk.2 p e (mm_nc r.2 - mm_nc S) (mm_ns r.2 - mm_ns S) s m _ below meth c D tc _ S ad r X B.returns (vx_table (x := y) B (hts _ List.mem_cons_self))
  obtain ⟨n, hn⟩ := mm_run_iff.mp (hdo as S r hf).2
  have hW := mm_sound (fun pc => mm_pr_row hrows pc) ⟨Nat.le_refl _, Nat.le_refl _⟩ n (0, mm_en mL as, [], S) hn ad s.heap [] 0 0 _ ⟨hP, hD.self, va_S.rf, mm_en_LH (hdo as S r hf).1, (Nat.sub_self _).symm, (Nat.sub_self _).symm, mm_le.rf S, fun v h => (by cases h), mm_en_vk hv, hRv, fun k _ => rfl, fun k _ => rfl⟩
  rw [lg_entry_eq]
  exact hW
