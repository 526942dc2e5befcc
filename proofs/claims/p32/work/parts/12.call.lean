/-! contracts and calls -/
def mm_Mo (f : mm_F) : Prop := ∀ as S r, f as S = some r → mm_le S r.2
def mm_Wd (D : va_G) (tc : Nat → ClassId) (ad : Nat → Nat) (S S' : mm_S) (A : Nat → Prop) (t : State) : Prop :=
  ∃ ad' : Nat → Nat, (∀ k, k < S.1 → ad' k = ad k) ∧ (∀ k, 1000 ≤ k → ad' k = ad k) ∧ va_P D vwCl (mm_w ad' tc S') t.heap ∧ va_K D vwCl (mm_tys tc) t ∧ va_D A (mm_w ad' tc S') ∧ mm_Rv S'
def mm_Qc (D : va_G) (tc : Nat → ClassId) (ad : Nat → Nat) (S : mm_S) (A : Nat → Prop) (r : mm_R) : Array Value → State → Outcome → State → Prop := match r.1 with
  | .inl none => va_Qv (fun _ : Unit => True) (fun _ t => mm_Wd D tc ad S r.2 A t) A
  | .inl (some (.int v)) => va_Qi (fun z (_ : Unit) => z = v) (fun _ t => mm_Wd D tc ad S r.2 A t) A
  | .inl (some (.long v)) => va_Ql (fun z (_ : Unit) => z = v) (fun _ t => mm_Wd D tc ad S r.2 A t) A
  | _ => va_Qv (fun _ : Unit => False) (fun _ t => mm_Wd D tc ad S r.2 A t) A
def mm_XC (D : va_G) (tc : Nat → ClassId) (ad : Nat → Nat) (S : mm_S) (A : Nat → Prop) (r : mm_R) : String → State → State → Prop :=
  vx_X (fun _ : Unit => True) (fun E _ t => (∃ k, r.1 = .inr k ∧ E = mm_xn k) ∧ mm_Wd D tc ad S r.2 A t) A
def mm_Pc (D : va_G) (tc : Nat → ClassId) (ad : Nat → Nat) (S : mm_S) (as : List Value) (sz : Nat) : Array Value → State → Prop :=
  va_Pc (as.map (mm_cv ad)) (fun U => U.heap.size = sz ∧ va_P D vwCl (mm_w ad tc S) U.heap ∧ va_K D vwCl (mm_tys tc) U ∧ va_D (fun _ => True) (mm_w ad tc S) ∧ mm_EX U ∧ mm_Out ad (va_A (mm_w ad tc S) sz) U U.heap)
/-- what a method does is what f says; hd is the word of its code -/
def mm_Snd (l : Launch) (y : MethodName) (hd : Cond) (fr lo : Nat) (f : mm_F) : Prop :=
  mm_Mo f ∧ ∀ D tc ad S as r sz, f as S = some r → (∀ v ∈ as, mm_vk S.1 v) → mm_Rv S →
    vx_Met l y (hd :: mm_ws) { frames := fr, cells := mm_nc r.2 - mm_nc S, slots := mm_ns r.2 - mm_ns S, locals := lo } (mm_Pc D tc ad S as sz) (mm_Qc D tc ad S (va_A (mm_w ad tc S) sz) r) (mm_XC D tc ad S (va_A (mm_w ad tc S) sz) r) (mm_nc r.2 - mm_nc S) (mm_ns r.2 - mm_ns S) (va_A (mm_w ad tc S) sz)
theorem mm_blind {D : va_G} {tc : Nat → ClassId} {ad : Nat → Nat} {S : mm_S} {as : List Value} {sz : Nat} : FrameBlind (mm_Pc D tc ad S as sz) := by
  intro a U g mk q
  obtain ⟨q0, q1, q2, q3, q4, q5, q6⟩ := q
  exact ⟨q0, q1, q2, va_K.moved (u := U) (U := U.calling g mk a) (Vm.Alike.refl U.vm) q3, q4, mm_EX.same (s := U) rfl q5, mm_Out.moved (u := U) (U := U.calling g mk a) (Vm.Alike.refl U.vm) q6⟩
theorem mm_good {w0 : Cond} (h : goodWord w0 = true) (big : List Cond) (hb : ∀ w ∈ mm_ws, w ∈ big) (hw : w0 ∈ mm_ws) : GoodIn big (w0 :: mm_ws) := by
  intro w hm
  rcases List.mem_cons.mp hm with e | e
  · rw [e]; exact ⟨hb _ hw, good_of_word h⟩
  · exact ⟨hb _ e, good_of_word (List.mem_filter.mp e).2⟩
section CALLS
variable {x : mm_cx} {Q : State → Prop} {Tg : mm_R} {pc : Nat}
/-- where this method's target is a throw: how it ends -/
def mm_Th (x : mm_cx) (Q : State → Prop) (Tg : mm_R) : Prop := ∀ (E : Nat) (S' : mm_S), Tg = (.inr E, S') → ∀ (ad' : Nat → Nat) (L : mm_L) (H1 : Heap) (locs : List Loc) (cells slots : Nat) (pc : Nat) (ls : Array Slot) (rest : List Value) (q : Addr) (ce : Cell),
  mm_Rp x ad' S' L [] H1 locs cells slots ls → mm_rm x S' → H1[q]? = some ce → ce.vm = .none → (mm_xs x).vm.findClass (mm_xn E) = some ce.cls →
  vx_W (mm_xp x) (mm_xl x) (mm_xe x) (mm_xR x) (mm_xs x) (mm_xm x) (mm_xa x) (mm_xb x) (mm_xh x) (mm_xc x) H1 locs cells slots Q (F0 (mm_xm x) pc ls rest) q
theorem mm_subA (X : mm_X x) {ad : Nat → Nat} {S : mm_S} {L : mm_L} {st : List Value} {H : Heap} {locs : List Loc} {cells slots : Nat} {ls : Array Slot} (hR : mm_Rp x ad S L st H locs cells slots ls) : ∀ q, va_A (mm_w ad (mm_xt x) S) H.size q → mm_xA x q := by
  intro q h
  rcases h with ⟨k, e, h⟩ | h
  · exact hR.2.1.2 k (q, e) h
  · exact X.2.2.2.2.2.2.1 q (Nat.le_trans hR.2.2.1.1 h)
theorem mm_pre (X : mm_X x) {ad : Nat → Nat} {S : mm_S} {L : mm_L} {st as : List Value} {H : Heap} {locs : List Loc} {cells slots : Nat} {ls : Array Slot} (hR : mm_Rp x ad S L st H locs cells slots ls) {av : List Value} (hav : as.map (mm_cv ad) = av) :
    PreS (mm_xs x) H (mm_Pc (mm_xD x) (mm_xt x) ad S as H.size) av := by
  refine ⟨mm_blind, fun U hU hW => ⟨by rw [hav], by rw [hU], by rw [hU]; exact hR.1, va_K.moved hW.alike X.2.2.2.2.2.1, hR.2.1.weaken (fun _ _ _ _ => trivial), mm_EX.warm hW X.2.2.2.2.2.2.2.1, ?_⟩⟩
  rw [hU]
  exact mm_Out.moved hW.alike (mm_Out.narrow (mm_Out.ad (mm_Out.kept X.2.2.2.2.2.2.2.2.1 hR.2.2.1.2.1) hR.2.2.2.2.2.2.2.2.2.2.2) (mm_subA X hR))
/-- behind a call -/
theorem mm_behind (X : mm_X x) {ad ad' : Nat → Nat} {S S' : mm_S} {L : mm_L} {st rest : List Value} {H H1 : Heap} {locs locs1 : List Loc} {cells slots : Nat} {ls : Array Slot} {A1 : Nat → Prop} (hR : mm_Rp x ad S L st H locs cells slots ls) (hle : mm_le S S')
    (hF : ∀ q, A1 q → mm_xA x q) (hr : ∀ v ∈ rest, v ∈ st) (h1 : ∀ k, k < S.1 → ad' k = ad k) (h2 : ∀ k, 1000 ≤ k → ad' k = ad k) (hP : va_P (mm_xD x) vwCl (mm_w ad' (mm_xt x) S') H1) (hD : va_D A1 (mm_w ad' (mm_xt x) S')) (hRv : mm_Rv S') (hS : va_S (mm_xA x) (mm_xs x).heap H1 locs1) :
    mm_Rp x ad' S' L rest H1 locs1 (cells + (mm_nc S' - mm_nc S)) (slots + (mm_ns S' - mm_ns S)) ls ∧ rest.map (mm_cv ad') = rest.map (mm_cv ad) := by
  obtain ⟨r1, r2, r3, r4, r5, r6, r7, r8, r9, r10, r11, r12⟩ := hR
  refine ⟨⟨hP, hD.weaken (fun _ q _ h => hF q.1 h), hS, r4.ad (n := S.1) h1 h2 r9, ?_, ?_, r7.tr hle, fun v hm => (r8 v (hr v hm)).mono hle.1, fun i v e => (r9 i v e).mono hle.1, hRv, fun k hk => ?_, fun k hk => ?_⟩, ?_⟩
  · have := r7.nc
    have := hle.nc
    omega
  · have := r7.ns
    have := hle.ns
    omega
  · rw [h1 k (Nat.lt_of_lt_of_le hk r7.1), r11 k hk]
  · rw [h2 k hk, r12 k hk]
  · exact mm_map_ad h1 h2 (fun v hm => r8 v (hr v hm))
/-- any call: how it runs is given, what follows is the row -/
theorem mm_cl_r (X : mm_X x) (hth : mm_Th x Q Tg) {f : mm_F} {fi : mm_I} (hmo : mm_Mo f)
    (hfi : ∀ L st S, fi L st S = none ∨ ∃ as rest, (∀ v ∈ as, v ∈ st) ∧ (∀ v ∈ rest, v ∈ st) ∧ fi L st S = (match f as S with
      | some (.inl v, S') => some (.inl (pc + 3, L, v.toList ++ rest, S'))
      | some (.inr E, S') => some (.inr (.inr E, S'))
      | none => none) ∧ ∀ r ad H locs cells slots ls, f as S = some r → mm_Rp x ad S L st H locs cells slots ls → cells + (mm_nc r.2 - mm_nc S) ≤ (mm_xR x).cells ∧ slots + (mm_ns r.2 - mm_ns S) ≤ (mm_xR x).slots →
        ∃ a, vx_Run (mm_xp x) (mm_xl x) (mm_xe x) (mm_xR x) (mm_xs x) (mm_xm x) (mm_xa x) (mm_xb x) (mm_xh x) (mm_xc x) H locs cells slots (mm_nc r.2 - mm_nc S) (mm_ns r.2 - mm_ns S) (F0 (mm_xm x) pc ls (st.map (mm_cv ad))) (rest.map (mm_cv ad)) (mm_Qc (mm_xD x) (mm_xt x) ad S (va_A (mm_w ad (mm_xt x) S) H.size) r a) (mm_XC (mm_xD x) (mm_xt x) ad S (va_A (mm_w ad (mm_xt x) S) H.size) r) (va_A (mm_w ad (mm_xt x) S) H.size)) : mm_row x Q Tg pc fi := by
  intro L st S
  rcases hfi L st S with h | ⟨as, rest, has, hrest, h, hrun⟩
  · exact ⟨fun c' e => (by rw [h] at e; cases e), fun r e => (by rw [h] at e; cases e)⟩
  rw [h]
  cases hf : f as S with
  | none => exact ⟨fun c' e => (by cases e), fun r e => (by cases e)⟩
  | some r =>
    have hle : mm_le S r.2 := hmo as S r hf
    have room : ∀ {ad H locs cells slots ls}, mm_Rp x ad S L st H locs cells slots ls → mm_rm x r.2 → cells + (mm_nc r.2 - mm_nc S) ≤ (mm_xR x).cells ∧ slots + (mm_ns r.2 - mm_ns S) ≤ (mm_xR x).slots := by
      intro ad H locs cells slots ls hR hrm
      have h5 := hR.2.2.2.2.1
      have h6 := hR.2.2.2.2.2.1
      have h7 := hR.2.2.2.2.2.2.1
      have := h7.nc
      have := h7.ns
      have := hle.nc
      have := hle.ns
      have := hrm.1
      have := hrm.2
      omega
    obtain ⟨o, S'⟩ := r
    cases o with
    | inl v =>
      refine ⟨fun c' e => ?_, fun r e => (by cases e)⟩
      cases e
      refine ⟨hle, fun ad H locs cells slots ls hR hrm kk => ?_⟩
      obtain ⟨a, hr⟩ := hrun _ ad H locs cells slots ls hf hR (room hR hrm)
      have hA := mm_subA X hR
      have nox : ∀ (E : String) (ce : Cell) (q9 : Addr) (u : Unit) (t : State) (H1 : Heap) (locs1 : List Loc), t.heap = H1 → (mm_xs x).vm.Alike t.vm → True → ((∃ k, (Sum.inl v : Option Value ⊕ Nat) = .inr k ∧ E = mm_xn k) ∧ mm_Wd (mm_xD x) (mm_xt x) ad S S' (va_A (mm_w ad (mm_xt x) S) H.size) t) → False := by
        rintro E ce q9 u t H1 locs1 - - - ⟨⟨k, hk, -⟩, -⟩
        cases hk
      cases v with
      | none =>
        refine vx_callv (a := a) hr hR.2.2.1 (fun q _ h => hA q h) hA (fun q _ h => hA q h) (fun E ce q9 u t H1 locs1 g1 g2 g3 g4 _ _ _ _ _ _ => (nox E ce q9 u t H1 locs1 g1 g2 g3 g4).elim) (fun u t H1 locs1 ht hvm hw hB hz1 hk1 hS => ?_)
        obtain ⟨ad', a1, a2, a3, a4, a5, a6⟩ := hB
        rw [ht] at a3
        obtain ⟨b1, b2⟩ := mm_behind X hR hle hA hrest a1 a2 a3 a5 a6 hS
        rw [← b2]
        exact kk ad' H1 locs1 _ _ ls b1
      | some w =>
        cases w with
        | int z =>
          refine vx_calli (a := a) hr hR.2.2.1 (fun q _ h => hA q h) hA (fun q _ h => hA q h) (fun E ce q9 u t H1 locs1 g1 g2 g3 g4 _ _ _ _ _ _ => (nox E ce q9 u t H1 locs1 g1 g2 g3 g4).elim) (fun z2 u t H1 locs1 ht hvm hw hB hz1 hk1 hS => ?_)
          obtain ⟨ad', a1, a2, a3, a4, a5, a6⟩ := hB
          rw [ht] at a3
          obtain ⟨b1, b2⟩ := mm_behind X hR hle hA hrest a1 a2 a3 a5 a6 hS
          have hw : z2 = z := hw
          rw [← b2, hw]
          refine kk ad' H1 locs1 _ _ ls ?_
          obtain ⟨r1, r2, r3, r4, r5, r6, r7, r8, r9⟩ := b1
          refine ⟨r1, r2, r3, r4, r5, r6, r7, fun v hm => ?_, r9⟩
          rcases List.mem_cons.mp hm with e | e
          · rw [e]; exact fun j e => (by cases e)
          · exact r8 v e
        | long z =>
          refine vx_calll (a := a) hr hR.2.2.1 (fun q _ h => hA q h) hA (fun q _ h => hA q h) (fun E ce q9 u t H1 locs1 g1 g2 g3 g4 _ _ _ _ _ _ => (nox E ce q9 u t H1 locs1 g1 g2 g3 g4).elim) (fun z2 u t H1 locs1 ht hvm hw hB hz1 hk1 hS => ?_)
          obtain ⟨ad', a1, a2, a3, a4, a5, a6⟩ := hB
          rw [ht] at a3
          obtain ⟨b1, b2⟩ := mm_behind X hR hle hA hrest a1 a2 a3 a5 a6 hS
          have hw : z2 = z := hw
          rw [← b2, hw]
          refine kk ad' H1 locs1 _ _ ls ?_
          obtain ⟨r1, r2, r3, r4, r5, r6, r7, r8, r9⟩ := b1
          refine ⟨r1, r2, r3, r4, r5, r6, r7, fun v hm => ?_, r9⟩
          rcases List.mem_cons.mp hm with e | e
          · rw [e]; exact fun j e => (by cases e)
          · exact r8 v e
        | _ => exact vx_callv (a := a) hr hR.2.2.1 (fun q _ h => hA q h) hA (fun q _ h => hA q h) (fun E ce q9 u t H1 locs1 g1 g2 g3 g4 _ _ _ _ _ _ => (nox E ce q9 u t H1 locs1 g1 g2 g3 g4).elim) (fun u t H1 locs1 ht hvm hw hB hz1 hk1 hS => hw.elim)
    | inr E =>
      refine ⟨fun c' e => (by cases e), fun r e => ?_⟩
      cases e
      refine ⟨hle, fun hT ad H locs cells slots ls hR hrm => ?_⟩
      obtain ⟨a, hr⟩ := hrun _ ad H locs cells slots ls hf hR (room hR hrm)
      have hA := mm_subA X hR
      refine vx_callv (a := a) hr hR.2.2.1 (fun q _ h => hA q h) hA (fun q _ h => hA q h) (fun E2 ce q9 u t H1 locs1 ht hvm _ hB hz1 hk1 hS hq hce hcl => ?_) (fun u t H1 locs1 ht hvm hw hB hz1 hk1 hS => hw.elim)
      obtain ⟨⟨k, hk, hE⟩, ad', a1, a2, a3, a4, a5, a6⟩ := hB
      rw [ht] at a3
      have hk : Sum.inr E = (Sum.inr k : Option Value ⊕ Nat) := hk
      cases hk
      obtain ⟨b1, b2⟩ := mm_behind (rest := []) X hR hle hA (fun v h => (by cases h)) a1 a2 a3 a5 a6 hS
      exact hth E S' hT.symm ad' L H1 locs1 _ _ pc ls _ q9 ce b1 hrm hq hce (by rw [← hE]; exact hcl)
theorem mm_take_rev {st : List Value} {n : Nat} : ∀ v ∈ (st.take n).reverse, v ∈ st := fun v h => List.mem_of_mem_take (List.mem_reverse.mp h)
theorem mm_split {st : List Value} {n : Nat} : st = (st.take n).reverse.reverse ++ st.drop n := by rw [List.reverse_reverse, List.take_append_drop]
/-- a word of a code among this method's own -/
theorem mm_cwB (X : mm_X x) {y : MethodName} {b : ByteArray} {mL : Nat} {ret : Option FieldType} (hcode : Cond.code y b mL ret ∈ mm_ws) : GoodIn mm_ws (Cond.code y b mL ret :: mm_ws) := mm_good rfl mm_ws (fun _ h => h) hcode
theorem mm_r_clV (X : mm_X x) (hth : mm_Th x Q Tg) {index ci na N mL fr lo : Nat} {C : String} {T : u_T} {y : MethodName} {b : ByteArray} {ret : Option FieldType} {f : mm_F} (hS : mm_Snd (mm_xl x) y (.code y b mL ret) fr lo f) (hc : vwCl[ci]? = some (C, T, N)) (d : decode (mm_xk x) pc = .ok (.invokevirtual index, 3))
    (hcode : Cond.code y b mL ret ∈ mm_ws) (h1 : Cond.methodLink (mm_xo x) index y ∈ mm_ws) (h2 : Cond.instanceMethod y ∈ mm_ws) (h3 : Cond.selects C y y ∈ mm_ws) (h4 : Cond.initialized C ∈ mm_ws)
    (hd : y.cls = C ∧ y.cls ≠ "java/lang/invoke/MethodHandle" ∧ y.cls ≠ "java/lang/invoke/VarHandle" ∧ (parseMethodDescriptor y.desc).map (fun d => d.parameters.length) = some na) (hR9 : fr + 1 ≤ (mm_xR x).frames ∧ 8 + (mL + 11) + lo ≤ (mm_xR x).locals) : mm_row x Q Tg pc (mm_clV (pc + 3) ci na f) := by
  refine mm_cl_r X hth hS.1 (fun L st S => ?_)
  unfold mm_clV
  split
  · next k as hst =>
    cases hb : (mm_isO S k ci && Nat.ble (na + 1) st.length && Nat.ble (mm_cat (st.drop (na + 1))) 8) with
    | false => exact Or.inl rfl
    | true =>
      rw [Bool.and_eq_true, Bool.and_eq_true] at hb
      obtain ⟨⟨hO, hlen⟩, hcat⟩ := hb
      refine Or.inr ⟨.ref k :: as, st.drop (na + 1), fun v h => mm_take_rev v (by rw [hst]; exact h), fun v h => List.mem_of_mem_drop h, rfl, fun r ad H locs cells slots ls hf hRp hroom => ⟨(Value.ref (ad k) :: as.map (mm_cv ad)).toArray, ?_⟩⟩
      obtain ⟨hlt, hlay⟩ := mm_isO_spec hO
      have he := mm_w_get (ad := ad) (tc := mm_xt x) hlt
      rw [mm_ce_O hlay] at he
      have hn : as.length = na := by
        have h8 := congrArg List.length hst
        rw [List.length_reverse, List.length_take] at h8
        have := Nat.le_of_ble_eq_true hlen
        rw [List.length_cons] at h8
        omega
      have hp := mm_pre (as := .ref k :: as) X hRp (av := .ref (ad k) :: as.map (mm_cv ad)) rfl
      refine vx_runV (As := as.map (mm_cv ad)) (b := ad k) (nL := mm_xn' x) ⟨X.1, X.2.1, X.2.2.1, X.2.2.2.1, X.2.2.2.2.1⟩ (hS.2 (mm_xD x) (mm_xt x) ad S (.ref k :: as) r H.size hf (fun v h => hRp.2.2.2.2.2.2.2.1 v (mm_take_rev v (by rw [hst]; exact h))) hRp.2.2.2.2.2.2.2.2.2.1)
        (cwV na X.2.2.2.2.1 (fun w hw => ?_) rfl rfl rfl hd hR9) ⟨hp.1, va_recv X.2.2.2.2.2.1 hRp.1 hc he, hp.2⟩ rfl (by rw [List.length_map, hn]) hRp.2.2.2.1.1 ?_ (by rw [mm_cv_sum]; show 2 * 0 + mm_cat _ ≤ 8; have := Nat.le_of_ble_eq_true hcat; omega) d hroom
      · rcases List.mem_append.mp hw with e | e
        · simp only [List.mem_cons, List.not_mem_nil, or_false] at e
          rcases e with rfl | rfl | rfl | rfl
          · exact ⟨h1, good_of_word rfl⟩
          · exact ⟨h2, good_of_word rfl⟩
          · exact ⟨h3, good_of_word rfl⟩
          · exact ⟨h4, good_of_word rfl⟩
        · exact mm_cwB X hcode w e
      · show st.map (mm_cv ad) = _
        conv => lhs; rw [mm_split (st := st) (n := na + 1), hst]
        rw [List.reverse_cons, List.map_append, List.map_append, List.map_reverse, List.append_assoc]
        rfl
  · exact Or.inl rfl
theorem mm_clS_r (X : mm_X x) (hth : mm_Th x Q Tg) {na : Nat} {f : mm_F} (hmo : mm_Mo f)
    (hrun : ∀ L st S r ad H locs cells slots ls, na ≤ st.length → mm_cat (st.drop na) ≤ 8 → f (st.take na).reverse S = some r → mm_Rp x ad S L st H locs cells slots ls → cells + (mm_nc r.2 - mm_nc S) ≤ (mm_xR x).cells ∧ slots + (mm_ns r.2 - mm_ns S) ≤ (mm_xR x).slots → ((st.take na).reverse.map (mm_cv ad)).length = na → st.map (mm_cv ad) = ((st.take na).reverse.map (mm_cv ad)).reverse ++ (st.drop na).map (mm_cv ad) →
        vx_Run (mm_xp x) (mm_xl x) (mm_xe x) (mm_xR x) (mm_xs x) (mm_xm x) (mm_xa x) (mm_xb x) (mm_xh x) (mm_xc x) H locs cells slots (mm_nc r.2 - mm_nc S) (mm_ns r.2 - mm_ns S) (F0 (mm_xm x) pc ls (st.map (mm_cv ad))) ((st.drop na).map (mm_cv ad)) (mm_Qc (mm_xD x) (mm_xt x) ad S (va_A (mm_w ad (mm_xt x) S) H.size) r ((st.take na).reverse.map (mm_cv ad)).toArray) (mm_XC (mm_xD x) (mm_xt x) ad S (va_A (mm_w ad (mm_xt x) S) H.size) r) (va_A (mm_w ad (mm_xt x) S) H.size)) : mm_row x Q Tg pc (mm_clS (pc + 3) na f) := by
  refine mm_cl_r X hth hmo (fun L st S => ?_)
  unfold mm_clS
  cases hb : (Nat.ble na st.length && Nat.ble (mm_cat (st.drop na)) 8) with
  | false => exact Or.inl rfl
  | true =>
    rw [Bool.and_eq_true] at hb
    obtain ⟨hlen, hcat⟩ := hb
    refine Or.inr ⟨(st.take na).reverse, st.drop na, mm_take_rev, fun v h => List.mem_of_mem_drop h, rfl, fun r ad H locs cells slots ls hf hRp hroom => ⟨((st.take na).reverse.map (mm_cv ad)).toArray, hrun L st S r ad H locs cells slots ls (Nat.le_of_ble_eq_true hlen) (Nat.le_of_ble_eq_true hcat) hf hRp hroom ?_ ?_⟩⟩
    · rw [List.length_map, List.length_reverse, List.length_take]
      have := Nat.le_of_ble_eq_true hlen
      omega
    · conv => lhs; rw [mm_split (st := st) (n := na)]
      rw [List.map_append, List.map_reverse]
theorem mm_r_clS (X : mm_X x) (hth : mm_Th x Q Tg) {index na mL fr lo : Nat} {y : MethodName} {b : ByteArray} {ret : Option FieldType} {f : mm_F} (hS : mm_Snd (mm_xl x) y (.code y b mL ret) fr lo f) (d : decode (mm_xk x) pc = .ok (.invokestatic index, 3))
    (hcode : Cond.code y b mL ret ∈ mm_ws) (h1 : Cond.methodLink (mm_xo x) index y ∈ mm_ws) (h2 : Cond.static y ∈ mm_ws) (h4 : Cond.initialized y.cls ∈ mm_ws)
    (hd : y.cls ≠ "java/lang/invoke/MethodHandle" ∧ y.cls ≠ "java/lang/invoke/VarHandle" ∧ (parseMethodDescriptor y.desc).map (fun d => d.parameters.length) = some na) (hR9 : fr + 1 ≤ (mm_xR x).frames ∧ 8 + (mL + 11) + lo ≤ (mm_xR x).locals) : mm_row x Q Tg pc (mm_clS (pc + 3) na f) := by
  refine mm_clS_r X hth hS.1 (fun L st S r ad H locs cells slots ls hlen hcat hf hRp hroom hn hsp => ?_)
  refine vx_runS (nL := mm_xn' x) ⟨X.1, X.2.1, X.2.2.1, X.2.2.2.1, X.2.2.2.2.1⟩ (hS.2 (mm_xD x) (mm_xt x) ad S _ r H.size hf (fun v h => hRp.2.2.2.2.2.2.2.1 v (mm_take_rev v h)) hRp.2.2.2.2.2.2.2.2.2.1)
    (va_cwS na X.2.2.2.2.1 (fun w hw => ?_) rfl rfl rfl hd hR9) (mm_pre X hRp rfl) rfl hn hRp.2.2.2.1.1 hsp (by rw [mm_cv_sum]; show 2 * 0 + mm_cat _ ≤ 8; omega) d hroom
  rcases List.mem_append.mp hw with e | e
  · simp only [List.mem_cons, List.not_mem_nil, or_false] at e
    rcases e with rfl | rfl | rfl
    · exact ⟨h1, good_of_word rfl⟩
    · exact ⟨h2, good_of_word rfl⟩
    · exact ⟨h4, good_of_word rfl⟩
  · exact mm_cwB X hcode w e
theorem mm_r_clSN (X : mm_X x) (hth : mm_Th x Q Tg) {index na mL fr lo : Nat} {y : MethodName} {b : ByteArray} {ret : Option FieldType} {f : mm_F} (hS : mm_Snd (mm_xl x) y (.code y b mL ret) fr lo f) (d : decode (mm_xk x) pc = .ok (.invokestatic index, 3))
    (hcode : Cond.code y b mL ret ∈ mm_ws) (h1 : (mm_xo x, index, y) ∈ mm_nest) (h2 : Cond.static y ∈ mm_ws) (h4 : Cond.initialized y.cls ∈ mm_ws)
    (hd : y.cls ≠ "java/lang/invoke/MethodHandle" ∧ y.cls ≠ "java/lang/invoke/VarHandle" ∧ (parseMethodDescriptor y.desc).map (fun d => d.parameters.length) = some na) (hR9 : fr + 1 ≤ (mm_xR x).frames ∧ 8 + (mL + 11) + lo ≤ (mm_xR x).locals) : mm_row x Q Tg pc (mm_clS (pc + 3) na f) := by
  refine mm_clS_r X hth hS.1 (fun L st S r ad H locs cells slots ls hlen hcat hf hRp hroom hn hsp => ?_)
  exact vx_runSN (nL := mm_xn' x) (host := "Linkcourt") ⟨X.1, X.2.1, X.2.2.1, X.2.2.2.1, X.2.2.2.2.1⟩ (hS.2 (mm_xD x) (mm_xt x) ad S _ r H.size hf (fun v h => hRp.2.2.2.2.2.2.2.1 v (mm_take_rev v h)) hRp.2.2.2.2.2.2.2.2.2.1)
    ⟨va_cnB na X.2.2.2.2.1 (mm_cwB X hcode) rfl rfl rfl (X.2.2.2.2.2.2.2.1.1 _ h1) (X.2.2.2.2.1 _ h4) hd hR9, X.2.2.2.2.1 _ h2, trivial⟩ (mm_pre X hRp rfl) rfl hn hRp.2.2.2.1.1 hsp (by rw [mm_cv_sum]; show 2 * 0 + mm_cat _ ≤ 8; omega) d hroom
/-- constructors -/
theorem mm_clI_r (X : mm_X x) (hth : mm_Th x Q Tg) {ci na : Nat} {f : mm_F} (hmo : mm_Mo f)
    (hrun : ∀ L st S r ad H locs cells slots ls k as, st.map (mm_cv ad) = (as.map (mm_cv ad)).reverse ++ .ref (ad k) :: (st.drop (na + 1)).map (mm_cv ad) → (as.map (mm_cv ad)).length = na → mm_cat (st.drop (na + 1)) ≤ 8 → (∀ v ∈ (.ref k :: as : List Value), v ∈ st) → f (.ref k :: as) S = some r → mm_Rp x ad S L st H locs cells slots ls → cells + (mm_nc r.2 - mm_nc S) ≤ (mm_xR x).cells ∧ slots + (mm_ns r.2 - mm_ns S) ≤ (mm_xR x).slots →
        vx_Run (mm_xp x) (mm_xl x) (mm_xe x) (mm_xR x) (mm_xs x) (mm_xm x) (mm_xa x) (mm_xb x) (mm_xh x) (mm_xc x) H locs cells slots (mm_nc r.2 - mm_nc S) (mm_ns r.2 - mm_ns S) (F0 (mm_xm x) pc ls (st.map (mm_cv ad))) ((st.drop (na + 1)).map (mm_cv ad)) (mm_Qc (mm_xD x) (mm_xt x) ad S (va_A (mm_w ad (mm_xt x) S) H.size) r (Value.ref (ad k) :: as.map (mm_cv ad)).toArray) (mm_XC (mm_xD x) (mm_xt x) ad S (va_A (mm_w ad (mm_xt x) S) H.size) r) (va_A (mm_w ad (mm_xt x) S) H.size)) : mm_row x Q Tg pc (mm_clV (pc + 3) ci na f) := by
  refine mm_cl_r X hth hmo (fun L st S => ?_)
  unfold mm_clV
  split
  · next k as hst =>
    cases hb : (mm_isO S k ci && Nat.ble (na + 1) st.length && Nat.ble (mm_cat (st.drop (na + 1))) 8) with
    | false => exact Or.inl rfl
    | true =>
      rw [Bool.and_eq_true, Bool.and_eq_true] at hb
      obtain ⟨⟨hO, hlen⟩, hcat⟩ := hb
      refine Or.inr ⟨.ref k :: as, st.drop (na + 1), fun v h => mm_take_rev v (by rw [hst]; exact h), fun v h => List.mem_of_mem_drop h, rfl, fun r ad H locs cells slots ls hf hRp hroom => ⟨(Value.ref (ad k) :: as.map (mm_cv ad)).toArray, ?_⟩⟩
      have hn : as.length = na := by
        have h8 := congrArg List.length hst
        rw [List.length_reverse, List.length_take] at h8
        have := Nat.le_of_ble_eq_true hlen
        rw [List.length_cons] at h8
        omega
      refine hrun L st S r ad H locs cells slots ls k as ?_ (by rw [List.length_map, hn]) (Nat.le_of_ble_eq_true hcat) (fun v h => mm_take_rev v (by rw [hst]; exact h)) hf hRp hroom
      conv => lhs; rw [mm_split (st := st) (n := na + 1), hst]
      rw [List.reverse_cons, List.map_append, List.map_append, List.map_reverse, List.append_assoc]
      rfl
  · exact Or.inl rfl
theorem mm_r_clI (X : mm_X x) (hth : mm_Th x Q Tg) {index ci na mL fr lo : Nat} {y : MethodName} {b : ByteArray} {f : mm_F} (hS : mm_Snd (mm_xl x) y (.code y b mL none) fr lo f) (d : decode (mm_xk x) pc = .ok (.invokespecial index, 3))
    (hcode : Cond.code y b mL none ∈ mm_ws) (h1 : Cond.methodLink (mm_xo x) index y ∈ mm_ws) (h2 : Cond.instanceMethod y ∈ mm_ws) (h4 : Cond.initialized y.cls ∈ mm_ws) (hi : y.name = "<init>")
    (hd : y.cls ≠ "java/lang/invoke/MethodHandle" ∧ y.cls ≠ "java/lang/invoke/VarHandle" ∧ (parseMethodDescriptor y.desc).map (fun d => d.parameters.length) = some na) (hR9 : fr + 1 ≤ (mm_xR x).frames ∧ 8 + (mL + 11) + lo ≤ (mm_xR x).locals) : mm_row x Q Tg pc (mm_clV (pc + 3) ci na f) := by
  refine mm_clI_r X hth hS.1 (fun L st S r ad H locs cells slots ls k as hsp hn hcat hin hf hRp hroom => ?_)
  exact vx_runI (nL := mm_xn' x) ⟨X.1, X.2.1, X.2.2.1, X.2.2.2.1, X.2.2.2.2.1⟩ (hS.2 (mm_xD x) (mm_xt x) ad S _ r H.size hf (fun v h => hRp.2.2.2.2.2.2.2.1 v (hin v h)) hRp.2.2.2.2.2.2.2.2.2.1)
    ⟨callB_of na X.2.2.2.2.1 (mm_cwB X hcode) rfl rfl rfl (X.2.2.2.2.1 _ h4) (X.2.2.2.2.1 _ h1) hd hR9, hi, X.2.2.2.2.1 _ h2⟩ (mm_pre (as := .ref k :: as) X hRp rfl) rfl hn hRp.2.2.2.1.1 hsp (by rw [mm_cv_sum]; show 2 * 0 + mm_cat _ ≤ 8; omega) d hroom
theorem mm_r_clIN (X : mm_X x) (hth : mm_Th x Q Tg) {index ci na mL fr lo : Nat} {y : MethodName} {b : ByteArray} {f : mm_F} (hS : mm_Snd (mm_xl x) y (.code y b mL none) fr lo f) (d : decode (mm_xk x) pc = .ok (.invokespecial index, 3))
    (hcode : Cond.code y b mL none ∈ mm_ws) (h1 : (mm_xo x, index, y) ∈ mm_nest) (h2 : Cond.instanceMethod y ∈ mm_ws) (h4 : Cond.initialized y.cls ∈ mm_ws) (hi : y.name = "<init>")
    (hd : y.cls ≠ "java/lang/invoke/MethodHandle" ∧ y.cls ≠ "java/lang/invoke/VarHandle" ∧ (parseMethodDescriptor y.desc).map (fun d => d.parameters.length) = some na) (hR9 : fr + 1 ≤ (mm_xR x).frames ∧ 8 + (mL + 11) + lo ≤ (mm_xR x).locals) : mm_row x Q Tg pc (mm_clV (pc + 3) ci na f) := by
  refine mm_clI_r X hth hS.1 (fun L st S r ad H locs cells slots ls k as hsp hn hcat hin hf hRp hroom => ?_)
  exact vx_runIN (nL := mm_xn' x) (host := "Linkcourt") ⟨X.1, X.2.1, X.2.2.1, X.2.2.2.1, X.2.2.2.2.1⟩ (hS.2 (mm_xD x) (mm_xt x) ad S _ r H.size hf (fun v h => hRp.2.2.2.2.2.2.2.1 v (hin v h)) hRp.2.2.2.2.2.2.2.2.2.1)
    ⟨va_cnB na X.2.2.2.2.1 (mm_cwB X hcode) rfl rfl rfl (X.2.2.2.2.2.2.2.1.1 _ h1) (X.2.2.2.2.1 _ h4) hd hR9, hi, X.2.2.2.2.1 _ h2⟩ (mm_pre (as := .ref k :: as) X hRp rfl) rfl hn hRp.2.2.2.1.1 hsp (by rw [mm_cv_sum]; show 2 * 0 + mm_cat _ ≤ 8; omega) d hroom
end CALLS
