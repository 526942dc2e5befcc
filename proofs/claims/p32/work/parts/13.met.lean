/-! what ends a method; the contract of a method out of its rows -/
def mm_Q (x : mm_cx) (Tg : mm_R) : State → Prop := vx_MQ (mm_xb x) (mm_Qc (mm_xD x) (mm_xt x) (mm_xd x) (mm_xS x) (mm_xA x) Tg) (mm_XC (mm_xD x) (mm_xt x) (mm_xd x) (mm_xS x) (mm_xA x) Tg) (mm_xa x) (mm_xs x) (mm_nc Tg.2 - mm_nc (mm_xS x)) (mm_ns Tg.2 - mm_ns (mm_xS x)) (mm_xA x)
section ENDS
variable {x : mm_cx} {Tg : mm_R} {pc : Nat}
theorem mm_Wd_of (X : mm_X x) {ad : Nat → Nat} {S : mm_S} {L : mm_L} {st : List Value} {H : Heap} {locs : List Loc} {cells slots : Nat} {ls : Array Slot} (hR : mm_Rp x ad S L st H locs cells slots ls) {t : State} (ht : t.heap = H) (hA : (mm_xs x).vm.Alike t.vm) : mm_Wd (mm_xD x) (mm_xt x) (mm_xd x) (mm_xS x) S (mm_xA x) t :=
  ⟨ad, hR.2.2.2.2.2.2.2.2.2.2.1, hR.2.2.2.2.2.2.2.2.2.2.2, by rw [ht]; exact hR.1, va_K.moved hA X.2.2.2.2.2.1, hR.2.1, hR.2.2.2.2.2.2.2.2.2.1⟩
theorem mm_r_iret (X : mm_X x) (hr : (mm_xh x).sig.returnType = some .int) (d : decode (mm_xk x) pc = .ok (.ireturn, 1)) : mm_row x (mm_Q x Tg) Tg pc mm_rtI := by
  intro L st S
  unfold mm_rtI
  split
  · next v =>
    refine ⟨fun c' e => (by cases e), fun r e => ?_⟩
    cases e
    refine ⟨mm_le.rf S, fun hT ad H locs cells slots ls hR _ => ?_⟩
    subst hT
    refine vx_ret ?_
    have h5 := hR.2.2.2.2.1
    have h6 := hR.2.2.2.2.2.1
    subst h5 h6
    exact W.iret X.1 X.2.1 hr (fun t ht hW => ⟨⟨v, (), rfl, rfl, mm_Wd_of X hR ht hW.alike⟩, hR.2.2.1.F ht⟩) hR.2.2.1.2.2 d X.2.2.2.2.2.2.2.2.2.1
  · exact ⟨fun c' e => (by cases e), fun r e => (by cases e)⟩
theorem mm_r_zret (X : mm_X x) (hr : (mm_xh x).sig.returnType = some .boolean) (d : decode (mm_xk x) pc = .ok (.ireturn, 1)) : mm_row x (mm_Q x Tg) Tg pc mm_rtZ := by
  intro L st S
  unfold mm_rtZ
  split
  · next v =>
    by_cases hv : v = 0 ∨ v = 1
    · rw [if_pos hv]
      refine ⟨fun c' e => (by cases e), fun r e => ?_⟩
      cases e
      refine ⟨mm_le.rf S, fun hT ad H locs cells slots ls hR _ => ?_⟩
      subst hT
      refine vx_ret ?_
      have h5 := hR.2.2.2.2.1
      have h6 := hR.2.2.2.2.2.1
      subst h5 h6
      exact W.zret X.1 X.2.1 hr (mm_narZ hv).1 (fun t ht hW => ⟨⟨v, (), rfl, rfl, mm_Wd_of X hR ht hW.alike⟩, hR.2.2.1.F ht⟩) hR.2.2.1.2.2 d X.2.2.2.2.2.2.2.2.2.1
    · rw [if_neg hv]
      exact ⟨fun c' e => (by cases e), fun r e => (by cases e)⟩
  · exact ⟨fun c' e => (by cases e), fun r e => (by cases e)⟩
theorem mm_narC {v : Int32} (h : 0 ≤ v.toInt ∧ v.toInt < 65536) : narrow .char (.int v) = .int v := by
  have e : v = nI v.toInt.toNat := by
    apply Int32.toInt_inj.mp
    rw [nI_toInt (by omega)]
    omega
  rw [e]
  exact (pk_charN (by omega)).1
theorem mm_r_cret (X : mm_X x) (hr : (mm_xh x).sig.returnType = some .char) (d : decode (mm_xk x) pc = .ok (.ireturn, 1)) : mm_row x (mm_Q x Tg) Tg pc mm_rtC := by
  intro L st S
  unfold mm_rtC
  split
  · next v =>
    by_cases hv : 0 ≤ v.toInt ∧ v.toInt < 65536
    · rw [if_pos hv]
      refine ⟨fun c' e => (by cases e), fun r e => ?_⟩
      cases e
      refine ⟨mm_le.rf S, fun hT ad H locs cells slots ls hR _ => ?_⟩
      subst hT
      refine vx_ret ?_
      have h5 := hR.2.2.2.2.1
      have h6 := hR.2.2.2.2.2.1
      subst h5 h6
      exact W.zret X.1 X.2.1 hr (mm_narC hv) (fun t ht hW => ⟨⟨v, (), rfl, rfl, mm_Wd_of X hR ht hW.alike⟩, hR.2.2.1.F ht⟩) hR.2.2.1.2.2 d X.2.2.2.2.2.2.2.2.2.1
    · rw [if_neg hv]
      exact ⟨fun c' e => (by cases e), fun r e => (by cases e)⟩
  · exact ⟨fun c' e => (by cases e), fun r e => (by cases e)⟩
theorem mm_r_lret (X : mm_X x) (hr : (mm_xh x).sig.returnType = some .long) (d : decode (mm_xk x) pc = .ok (.lreturn, 1)) : mm_row x (mm_Q x Tg) Tg pc mm_rtJ := by
  intro L st S
  unfold mm_rtJ
  split
  · next v =>
    refine ⟨fun c' e => (by cases e), fun r e => ?_⟩
    cases e
    refine ⟨mm_le.rf S, fun hT ad H locs cells slots ls hR _ => ?_⟩
    subst hT
    refine vx_ret ?_
    have h5 := hR.2.2.2.2.1
    have h6 := hR.2.2.2.2.2.1
    subst h5 h6
    exact W.lret X.1 X.2.1 hr (fun t ht hW => ⟨⟨v, (), rfl, rfl, mm_Wd_of X hR ht hW.alike⟩, hR.2.2.1.F ht⟩) hR.2.2.1.2.2 d X.2.2.2.2.2.2.2.2.2.1
  · exact ⟨fun c' e => (by cases e), fun r e => (by cases e)⟩
theorem mm_r_vret (X : mm_X x) (hr : (mm_xh x).sig.returnType = none) (d : decode (mm_xk x) pc = .ok (.return_, 1)) : mm_row x (mm_Q x Tg) Tg pc mm_rtV := by
  intro L st S
  unfold mm_rtV
  split
  · refine ⟨fun c' e => (by cases e), fun r e => ?_⟩
    cases e
    refine ⟨mm_le.rf S, fun hT ad H locs cells slots ls hR _ => ?_⟩
    subst hT
    refine vx_ret ?_
    have h5 := hR.2.2.2.2.1
    have h6 := hR.2.2.2.2.2.1
    subst h5 h6
    exact W.vret X.1 X.2.1 hr (fun t ht hW => ⟨⟨(), rfl, trivial, mm_Wd_of X hR ht hW.alike⟩, hR.2.2.1.F ht⟩) hR.2.2.1.2.2 d X.2.2.2.2.2.2.2.2.2.1
  · exact ⟨fun c' e => (by cases e), fun r e => (by cases e)⟩
/-- a throw that leaves a method without a table -/
theorem mm_th_out (X : mm_X x) (htab : ∀ z ∈ (mm_xc x).exceptionTable.toList, False) : mm_Th x (mm_Q x Tg) Tg := by
  intro E S' hT ad' L H1 locs cells slots pc ls rest q ce hR hrm hq hce hcl
  subst hT
  refine vx_out (E := mm_xn E) (fun z hz => (htab z hz).elim) X.2.2.2.2.2.2.2.2.2.1 hq hce hcl (fun t ht hA => ⟨(), trivial, ⟨⟨E, rfl, rfl⟩, mm_Wd_of X hR ht hA⟩, hR.2.2.1.F ht⟩) hR.2.2.1.2.2 ?_ ?_
  · exact Nat.le_of_eq hR.2.2.2.2.1
  · exact Nat.le_of_eq hR.2.2.2.2.2.1
def mm_nms : List String := ["java/lang/RuntimeException", "java/lang/Exception"]
/-- the words of a throw of E by the constructor's place ic -/
def mm_aw (own : String) (ik ic E : Nat) : Prop := (∀ w ∈ (vx_atS own ic (mm_xn E) mm_nms).filter goodWord, w ∈ lw_tbl) ∧ (∀ w ∈ (vx_atS own ic (mm_xn E) mm_nms).filter (fun w => !goodWord w), w ∈ Cond.castable (mm_xn E) (mm_xn E) :: mm_dcl.map Cond.declares) ∧ (∀ w ∈ Cond.classLink own ik (mm_xn E) :: Cond.initialized (mm_xn E) :: vx_atS own ic (mm_xn E) mm_nms, vx_ot w = true)
theorem mm_fitE {E : Nat} (hE : E = 1 ∨ E = 2 ∨ E = 3) : Bundle.fit (mm_xn E) = true ∧ ∀ n ∈ mm_nms, Bundle.fit n = true := by
  refine ⟨?_, by decide +kernel⟩
  rcases hE with rfl | rfl | rfl <;> decide +kernel
theorem mm_thr_aux (X : mm_X x) {E : Nat} {ad : Nat → Nat} {S : mm_S} {L : mm_L} {st : List Value} {H : Heap} {locs : List Loc} {cells slots : Nat} {ls : Array Slot} (hR : mm_Rp x ad S L st H locs cells slots ls) (t : State) (hA : (mm_xs x).vm.Alike t.vm) (hz : H.size ≤ t.heap.size) (hk : ∀ q : Nat, q < H.size → t.heap[q]? = H[q]?) :
    mm_XC (mm_xD x) (mm_xt x) (mm_xd x) (mm_xS x) (mm_xA x) (.inr E, (S.1, S.2.1 + 1, S.2.2)) (mm_xn E) (mm_xs x) t := by
  refine ⟨(), trivial, ⟨⟨E, rfl, rfl⟩, ad, hR.2.2.2.2.2.2.2.2.2.2.1, hR.2.2.2.2.2.2.2.2.2.2.2, ?_, va_K.moved hA X.2.2.2.2.2.1, hR.2.1, hR.2.2.2.2.2.2.2.2.2.1⟩, Nat.le_trans hR.2.2.1.1 hz, fun q h1 h2 => ?_⟩
  · have hP : va_P (mm_xD x) vwCl (mm_w ad (mm_xt x) S) t.heap := hR.1.kept (fun k q hq => hk q.1 ((hR.1 k q hq).lt))
    exact hP
  · rw [hk q (Nat.lt_of_lt_of_le h1 hR.2.2.1.1)]
    exact hR.2.2.1.2.1 q h1 h2
theorem mm_r_thr (X : mm_X x) (htab : ∀ z ∈ (mm_xc x).exceptionTable.toList, False) {E ik is ic : Nat} {text : String} (hE : E = 1 ∨ E = 2 ∨ E = 3) (ho : mm_xo x = "Linkcourt") (haw : mm_aw "Linkcourt" ik ic E) (hk : Cond.classLink "Linkcourt" ik (mm_xn E) ∈ mm_ws) (hini : Cond.initialized (mm_xn E) ∈ mm_ws) (hstr : (is, text) ∈ mm_strs)
    (d0 : decode (mm_xk x) pc = .ok (.new ik, 3)) (d3 : decode (mm_xk x) (pc + 3) = .ok (.dup, 1)) (d4 : decode (mm_xk x) (pc + 4) = .ok (.ldc is, 2)) (d6 : decode (mm_xk x) (pc + 6) = .ok (.invokespecial ic, 3)) (d9 : decode (mm_xk x) (pc + 9) = .ok (.athrow, 1)) (hfr : 6 ≤ (mm_xR x).frames) (hlo : 90 ≤ (mm_xR x).locals) : mm_row x (mm_Q x Tg) Tg pc (mm_thr E) := by
  intro L st S
  unfold mm_thr
  cases hc : Nat.ble (mm_cat st) 8 with
  | false => exact ⟨fun c' e => (by cases e), fun r e => (by cases e)⟩
  | true =>
    refine ⟨fun c' e => (by cases e), fun r e => ?_⟩
    cases e
    refine ⟨⟨Nat.le_refl _, Nat.le_succ _⟩, fun hT ad H locs cells slots ls hR hrm => ?_⟩
    subst hT
    obtain ⟨sa, hsa⟩ := X.2.2.2.2.2.2.2.1.2.1 _ hstr
    have hcc := Nat.le_of_ble_eq_true hc
    have hle := hR.2.2.2.2.2.2.1
    refine vx_throwS (own := "Linkcourt") (cls := mm_xn E) (names := mm_nms) (text := text) (sa := sa) (A := mm_xA x) X.1 X.2.1 X.2.2.2.2.2.2.2.2.2.2 (by rw [← ho]; exact X.2.2.2.1) (mm_fitE hE).1 (mm_fitE hE).2 (X.2.2.2.2.1 _ hk) (X.2.2.2.2.1 _ hini) hsa
      (vx_hat (B := Cond.castable (mm_xn E) (mm_xn E) :: mm_dcl.map Cond.declares) (fun w hw => X.2.2.2.2.1 w (mm_mem (haw.1 w hw) (List.mem_filter.mp hw).2)) haw.2.1 (vx_c (va_Nw.use rfl (X.2.2.2.2.2.2.2.1.2.2.1 E hE)) (fun w hw => (List.mem_map.mp hw).elim fun q hq => by rw [← hq.2]; exact va_Nw.use rfl (X.2.2.2.2.2.2.2.1.2.2.2.2 q hq.1)))) haw.2.2
      X.2.2.2.2.2.2.2.2.1.2.1 X.2.2.2.2.2.2.2.2.1.2.2 hR.2.2.1 (by rw [X.2.2.1]; exact hR.2.2.2.1.1) d0 d3 d4 d6 d9 (fun z hz => (htab z hz).elim) hfr ?_ ?_ ?_ X.2.2.2.2.2.2.2.2.2.1 (fun t h1 h2 h3 => mm_thr_aux X hR t h1 h2 h3) hR.2.2.1.2.2 ?_ ?_
    · rw [mm_cv_sum]
      show mm_cat st + (13 * (2 + 1) + 43) ≤ _
      omega
    · have := hrm.1
      have h5 := hR.2.2.2.2.1
      have := hle.nc
      unfold mm_nc at *
      dsimp only at *
      omega
    · have := hrm.2
      have h6 := hR.2.2.2.2.2.1
      have := hle.ns
      unfold mm_ns at *
      dsimp only at *
      omega
    · have h5 := hR.2.2.2.2.1
      have := hle.nc
      unfold mm_nc at *
      dsimp only at *
      omega
    · have h6 := hR.2.2.2.2.2.1
      have := hle.ns
      unfold mm_ns at *
      dsimp only at *
      omega
theorem mm_r_thrW (X : mm_X x) (htab : ∀ z ∈ (mm_xc x).exceptionTable.toList, False) {E ik is ic : Nat} {text : String} (hE : E = 1 ∨ E = 2 ∨ E = 3) (ho : mm_xo x = "Linkcourt") (haw : mm_aw "Linkcourt" ik ic E) (hk : Cond.classLink "Linkcourt" ik (mm_xn E) ∈ mm_ws) (hini : Cond.initialized (mm_xn E) ∈ mm_ws) (hstr : (is, text) ∈ mm_strs)
    (d0 : decode (mm_xk x) pc = .ok (.new ik, 3)) (d3 : decode (mm_xk x) (pc + 3) = .ok (.dup, 1)) (d4 : decode (mm_xk x) (pc + 4) = .ok (.ldc_w is, 3)) (d6 : decode (mm_xk x) (pc + 7) = .ok (.invokespecial ic, 3)) (d9 : decode (mm_xk x) (pc + 10) = .ok (.athrow, 1)) (hfr : 6 ≤ (mm_xR x).frames) (hlo : 90 ≤ (mm_xR x).locals) : mm_row x (mm_Q x Tg) Tg pc (mm_thr E) := by
  intro L st S
  unfold mm_thr
  cases hc : Nat.ble (mm_cat st) 8 with
  | false => exact ⟨fun c' e => (by cases e), fun r e => (by cases e)⟩
  | true =>
    refine ⟨fun c' e => (by cases e), fun r e => ?_⟩
    cases e
    refine ⟨⟨Nat.le_refl _, Nat.le_succ _⟩, fun hT ad H locs cells slots ls hR hrm => ?_⟩
    subst hT
    obtain ⟨sa, hsa⟩ := X.2.2.2.2.2.2.2.1.2.1 _ hstr
    have hcc := Nat.le_of_ble_eq_true hc
    have hle := hR.2.2.2.2.2.2.1
    refine vx_throwSW (own := "Linkcourt") (cls := mm_xn E) (names := mm_nms) (text := text) (sa := sa) (A := mm_xA x) X.1 X.2.1 X.2.2.2.2.2.2.2.2.2.2 (by rw [← ho]; exact X.2.2.2.1) (mm_fitE hE).1 (mm_fitE hE).2 (X.2.2.2.2.1 _ hk) (X.2.2.2.2.1 _ hini) hsa
      (vx_hat (B := Cond.castable (mm_xn E) (mm_xn E) :: mm_dcl.map Cond.declares) (fun w hw => X.2.2.2.2.1 w (mm_mem (haw.1 w hw) (List.mem_filter.mp hw).2)) haw.2.1 (vx_c (va_Nw.use rfl (X.2.2.2.2.2.2.2.1.2.2.1 E hE)) (fun w hw => (List.mem_map.mp hw).elim fun q hq => by rw [← hq.2]; exact va_Nw.use rfl (X.2.2.2.2.2.2.2.1.2.2.2.2 q hq.1)))) haw.2.2
      X.2.2.2.2.2.2.2.2.1.2.1 X.2.2.2.2.2.2.2.2.1.2.2 hR.2.2.1 (by rw [X.2.2.1]; exact hR.2.2.2.1.1) d0 d3 d4 d6 d9 (fun z hz => (htab z hz).elim) hfr ?_ ?_ ?_ X.2.2.2.2.2.2.2.2.2.1 (fun t h1 h2 h3 => mm_thr_aux X hR t h1 h2 h3) hR.2.2.1.2.2 ?_ ?_
    · rw [mm_cv_sum]
      show mm_cat st + (13 * (2 + 1) + 43) ≤ _
      omega
    · have := hrm.1
      have h5 := hR.2.2.2.2.1
      have := hle.nc
      unfold mm_nc at *
      dsimp only at *
      omega
    · have := hrm.2
      have h6 := hR.2.2.2.2.2.1
      have := hle.ns
      unfold mm_ns at *
      dsimp only at *
      omega
    · have h5 := hR.2.2.2.2.1
      have := hle.nc
      unfold mm_nc at *
      dsimp only at *
      omega
    · have h6 := hR.2.2.2.2.2.1
      have := hle.ns
      unfold mm_ns at *
      dsimp only at *
      omega
end ENDS
