/-! rows that make cells -/
def mm_df (kd : Nat) : Value := match kd with
  | 0 => .int 0
  | 1 => .long 0
  | _ => .null
theorem mm_lay_lt {k : Nat} {ci : Nat} (h : mm_lay k = .inl ci) : k < 1000 := by
  rcases Nat.lt_or_ge k 79 with q | q
  · omega
  · unfold mm_lay at h
    rw [List.getD_eq_getElem?_getD, List.getElem?_eq_none (show mm_layL.length ≤ k from q)] at h
    cases h
theorem mm_lay_lt4 {k t n : Nat} (h : mm_lay k = .inr (t, n)) (ht : t < 4) : k < 1000 := by
  rcases Nat.lt_or_ge k 79 with q | q
  · omega
  · unfold mm_lay at h
    rw [List.getD_eq_getElem?_getD, List.getElem?_eq_none (show mm_layL.length ≤ k from q)] at h
    cases h
    omega
theorem mm_lay_sz : ∀ q ∈ mm_layL, ∀ t n : Nat, q = .inr (t, n) → n ≤ 19683 := by
  have : mm_layL.all (fun q => match q with
    | .inl _ => true
    | .inr p => Nat.ble p.2 19683) = true := by decide +kernel
  intro q hq t n e
  have h := List.all_eq_true.mp this q hq
  rw [e] at h
  exact Nat.le_of_ble_eq_true h
theorem mm_lay_n {k t n : Nat} (h : mm_lay k = .inr (t, n)) : n ≤ 19683 := by
  unfold mm_lay at h
  rw [List.getD_eq_getElem?_getD] at h
  cases hk : mm_layL[k]? with
  | none => rw [hk] at h; cases h; omega
  | some q =>
    rw [hk] at h
    exact mm_lay_sz q (List.mem_of_getElem? hk) t n h
theorem mm_w_push {ad : Nat → Nat} {tc : Nat → ClassId} {S S' : mm_S} {q : Nat} (hn : S'.1 = S.1 + 1) (hs : S.1 < 1000) (hce : ∀ ad tc k, k < S.1 → mm_ce ad tc S' k = mm_ce ad tc S k) (hR : mm_Rv S) :
    mm_w (fun k => if k = S.1 then q else ad k) tc S' = mm_w ad tc S ++ [(q, mm_ce (fun k => if k = S.1 then q else ad k) tc S' S.1)] := by
  unfold mm_w
  rw [hn, List.range_succ, List.map_append]
  congr 1
  · apply List.map_congr_left
    intro k hk
    have hk : k < S.1 := List.mem_range.mp hk
    rw [hce _ _ k hk, mm_ce_ad (ad := ad) (fun j hj => if_neg (by omega)) (fun j hj => if_neg (by omega)) hR k]
    show ((if k = S.1 then q else ad k), _) = _
    rw [if_neg (by omega)]
  · show [((if S.1 = S.1 then q else ad S.1), _)] = [_]
    rw [if_pos rfl]
section ROWS5
variable {x : mm_cx} {Q : State → Prop} {Tg : mm_R} {pc : Nat}
/-- a new cell q in the world -/
theorem mm_grow {ad : Nat → Nat} {S S' : mm_S} {L : mm_L} {st st' : List Value} {H H1 : Heap} {locs : List Loc} {cells slots q z : Nat} {ls : Array Slot}
    (hR : mm_Rp x ad S L st H locs cells slots ls) (hn : S'.1 = S.1 + 1) (he : S'.2.1 = S.2.1) (hs : S.1 < 1000) (hz : mm_sz S.1 = z) (hst : ∀ v ∈ st', v ∈ st) (hRv : mm_Rv S → mm_Rv S')
    (hP : va_P (mm_xD x) vwCl (mm_w (fun k => if k = S.1 then q else ad k) (mm_xt x) S') H1) (hD : va_D (mm_xA x) (mm_w (fun k => if k = S.1 then q else ad k) (mm_xt x) S')) (hS : va_S (mm_xA x) (mm_xs x).heap H1 locs) :
    mm_Rp x (fun k => if k = S.1 then q else ad k) S' L (.ref S.1 :: st') H1 locs (cells + 1) (slots + z) ls := by
  obtain ⟨r1, r2, r3, r4, r5, r6, r7, r8, r9, r10, r11, r12⟩ := hR
  refine ⟨hP, hD, hS, r4.ad (n := S.1) (fun k hk => if_neg (by omega)) (fun k hk => if_neg (by omega)) r9, ?_, ?_, ?_, fun v hm => ?_, fun i v e => (r9 i v e).mono (by omega), hRv r10, fun k hk => ?_, fun k hk => ?_⟩
  · have := r7.nc
    unfold mm_nc at this r5 ⊢
    rw [hn, he]
    omega
  · have := r7.ns
    unfold mm_ns at this r6 ⊢
    rw [hn, he]
    show slots + z = mm_sl S.1 + mm_sz S.1 + 6 * S.2.1 - _
    rw [hz]
    omega
  · exact ⟨by rw [hn]; exact Nat.le_succ_of_le r7.1, by rw [he]; exact r7.2⟩
  · rcases List.mem_cons.mp hm with e | e
    · rw [e, hn]; exact fun j e => by cases e; exact Or.inl (Nat.lt_succ_self _)
    · exact (r8 v (hst v e)).mono (by omega)
  · rw [← r11 k hk]; exact if_neg (by have := r7.1; omega)
  · rw [← r12 k hk]; exact if_neg (by omega)
theorem mm_map_ad {ad ad' : Nat → Nat} {n : Nat} {st : List Value} (h1 : ∀ k, k < n → ad' k = ad k) (h2 : ∀ k, 1000 ≤ k → ad' k = ad k) (hv : ∀ v ∈ st, mm_vk n v) : st.map (mm_cv ad') = st.map (mm_cv ad) :=
  List.map_congr_left (fun v hm => mm_cv_eq h1 h2 (hv v hm))
theorem mm_r_new (X : mm_X x) {index ci N : Nat} {C : String} {T : u_T} (hc : vwCl[ci]? = some (C, T, N)) (hdf : ∀ j, j < N → defaultValue (mm_ty ci j) = mm_df (mm_kd ci j)) (d : decode (mm_xk x) pc = .ok (.new index, 3))
    (h1 : Cond.classLink (mm_xo x) index C ∈ mm_ws) (h2 : Cond.instantiable C N ∈ mm_ws) (h3 : Cond.initialized C ∈ mm_ws) : mm_row x Q Tg pc (mm_new (pc + 3) ci) := by
  intro L st S
  unfold mm_new
  split
  · next c hlay =>
    cases h : Nat.beq c ci with
    | false => exact ⟨fun c' e => (by cases e), fun r e => (by cases e)⟩
    | true =>
      have e := Nat.eq_of_beq_eq_true h
      subst e
      refine ⟨fun c' e => ?_, fun r e => (by cases e)⟩
      cases e
      refine ⟨⟨Nat.le_succ _, Nat.le_refl _⟩, fun ad H locs cells slots ls hR hrm kk => ?_⟩
      obtain ⟨S', hS'⟩ : ∃ z : mm_S, z = (S.1 + 1, S.2.1, (fun i j => if i = S.1 then .null else S.2.2.1 i j), (fun i j => if i = S.1 then 0 else S.2.2.2.1 i j), (fun i j => if i = S.1 then 0 else S.2.2.2.2.1 i j), S.2.2.2.2.2) := ⟨_, rfl⟩
      rw [← hS'] at hrm kk
      have hn : S'.1 = S.1 + 1 := by rw [hS']
      have he : S'.2.1 = S.2.1 := by rw [hS']
      have hlt := mm_lay_lt hlay
      have hsz : mm_sz S.1 = N := by unfold mm_sz; rw [hlay]; exact mm_nf_eq hc
      have hle := hR.2.2.2.2.2.2.1
      have hce : ∀ (ad : Nat → Nat) (tc : Nat → ClassId) (k : Nat), k < S.1 → mm_ce ad tc S' k = mm_ce ad tc S k := by
        intro ad tc k hk
        unfold mm_ce
        split
        · next c2 _ =>
          have : mm_fl ad S' k c2 = mm_fl ad S k c2 := by
            unfold mm_fl
            apply List.map_congr_left
            intro p _
            unfold mm_fv
            rw [hS']
            have hne : ¬ k = S.1 := by omega
            split
            · show Value.int (if k = S.1 then 0 else S.2.2.2.1 k p) = _
              rw [if_neg hne]
            · show Value.long (if k = S.1 then 0 else S.2.2.2.2.1 k p) = _
              rw [if_neg hne]
            · show mm_cv ad (if k = S.1 then .null else S.2.2.1 k p) = _
              rw [if_neg hne]
          rw [this]
        · rw [hS']; rfl
      have hRv : mm_Rv S → mm_Rv S' := by
        intro h a b
        rw [hS']
        show mm_vk (S.1 + 1) (if a = S.1 then .null else S.2.2.1 a b)
        split
        · exact fun j e => (by cases e)
        · exact (h a b).mono (by omega)
      refine va_new (fs := mm_fl (fun k => k) S' S.1 c) X.1 X.2.1 X.2.2.2.2.1 (mm_uws hc) (mm_ty c) (mm_cl_ty hc).1 X.2.2.2.1 (X.2.2.2.2.1 _ h1) (X.2.2.2.2.1 _ h2) (X.2.2.2.2.1 _ h3) X.2.2.2.2.2.1 hR.1 hR.2.1 hR.2.2.1 X.2.2.2.2.2.2.1 hc (fun j hj => ?_) ?_ ?_ d (fun q H1 hP hD hS => ?_)
      · rw [hdf j hj]
        unfold vp_V
        rw [List.getD_eq_getElem?_getD, mm_fl_get (by rw [mm_nf_eq hc]; exact hj)]
        show mm_df (mm_kd c j) = mm_fv (fun k => k) S' S.1 c j
        unfold mm_fv
        rw [hS']
        split
        · next e => rw [e]; show Value.int 0 = Value.int (if S.1 = S.1 then 0 else _); rw [if_pos rfl]
        · next e => rw [e]; show Value.long 0 = Value.long (if S.1 = S.1 then 0 else _); rw [if_pos rfl]
        · next e0 e1 =>
          show mm_df (mm_kd c j) = mm_cv _ (if S.1 = S.1 then .null else _)
          rw [if_pos rfl]
          unfold mm_df
          split
          · next e => exact absurd e e0
          · next e => exact absurd e e1
          · rfl
      · have := hrm.1
        have := hle.nc
        have h5 := hR.2.2.2.2.1
        unfold mm_nc at *
        rw [hn, he] at *
        omega
      · have := hrm.2
        have := hle.ns
        have h6 := hR.2.2.2.2.2.1
        unfold mm_ns at *
        rw [hn, he] at *
        have e2 : mm_sl (S.1 + 1) = mm_sl S.1 + N := by show mm_sl S.1 + mm_sz S.1 = _; rw [hsz]
        omega
      · have hfl : mm_fl (fun k => k) S' S.1 c = mm_fl (fun k => if k = S.1 then q else ad k) S' S.1 c := by
          unfold mm_fl
          apply List.map_congr_left
          intro p _
          unfold mm_fv
          rw [hS']
          split
          · rfl
          · rfl
          · show mm_cv _ (if S.1 = S.1 then .null else _) = mm_cv _ (if S.1 = S.1 then .null else _)
            rw [if_pos rfl]
            rfl
        have hw : mm_w ad (mm_xt x) S ++ [(q, .inr (c, mm_fl (fun k => k) S' S.1 c))] = mm_w (fun k => if k = S.1 then q else ad k) (mm_xt x) S' := by
          rw [mm_w_push hn hlt hce hR.2.2.2.2.2.2.2.2.2.1, mm_ce_O hlay, hfl]
        rw [hw] at hP hD
        have k1 := kk (fun k => if k = S.1 then q else ad k) H1 locs (cells + 1) (slots + N) ls (mm_grow hR hn he hlt hsz (fun v h => h) hRv hP hD hS)
        have e3 : (Value.ref S.1 :: st).map (mm_cv (fun k => if k = S.1 then q else ad k)) = .ref q :: st.map (mm_cv ad) := by
          rw [List.map_cons, mm_map_ad (n := S.1) (ad := ad) (fun k hk => if_neg (by omega)) (fun k hk => if_neg (by omega)) hR.2.2.2.2.2.2.2.1]
          show Value.ref (if S.1 = S.1 then q else ad S.1) :: _ = _
          rw [if_pos rfl]
        have k1 : mm_W x H1 locs (cells + 1) (slots + N) Q (F0 (mm_xm x) (pc + 3) ls ((Value.ref S.1 :: st).map (mm_cv (fun k => if k = S.1 then q else ad k)))) := k1
        rw [e3] at k1
        exact k1
  · exact ⟨fun c' e => (by cases e), fun r e => (by cases e)⟩
theorem mm_r_nwa (X : mm_X x) {t : Nat} {atype : ArrayType} (ht : t < 4) (hty : newarray.typeOf atype = mm_at t) (d : decode (mm_xk x) pc = .ok (.newarray atype, 2)) (h1 : Cond.arrayClass (mm_at t) ∈ mm_ws) : mm_row x Q Tg pc (mm_nwa (pc + 2) t) := by
  intro L st S
  unfold mm_nwa
  split
  · next v r =>
    split
    · next q hlay =>
      by_cases hq : q.1 = t ∧ v.toInt = q.2
      · rw [if_pos hq]
        obtain ⟨t2, n⟩ := q
        obtain ⟨rfl, hv⟩ := hq
        have hv : v.toInt = (n : Int) := hv
        refine ⟨fun c' e => ?_, fun r e => (by cases e)⟩
        cases e
        refine ⟨⟨Nat.le_succ _, Nat.le_refl _⟩, fun ad H locs cells slots ls hR hrm kk => ?_⟩
        obtain ⟨S', hS'⟩ : ∃ z : mm_S, z = (S.1 + 1, S.2.1, S.2.2.1, S.2.2.2.1, S.2.2.2.2.1, (fun i j => if i = S.1 then 0 else S.2.2.2.2.2.1 i j), (fun i j => if i = S.1 then 0 else S.2.2.2.2.2.2 i j)) := ⟨_, rfl⟩
        rw [← hS'] at hrm kk
        have hn : S'.1 = S.1 + 1 := by rw [hS']
        have he : S'.2.1 = S.2.1 := by rw [hS']
        have hlt := mm_lay_lt4 hlay ht
        have hsz : mm_sz S.1 = n := by unfold mm_sz; rw [hlay]
        have hle := hR.2.2.2.2.2.2.1
        have hn2 := mm_lay_n hlay
        have hce : ∀ (ad : Nat → Nat) (tc : Nat → ClassId) (k : Nat), k < S.1 → mm_ce ad tc S' k = mm_ce ad tc S k := by
          intro ad tc k hk
          have hne : ¬ k = S.1 := by omega
          unfold mm_ce
          split
          · rw [hS']; rfl
          · next q2 _ =>
            have : mm_ac S' k q2.1 = mm_ac S k q2.1 := by
              unfold mm_ac
              rw [hS']
              split
              · congr 2
                funext a
                show (if k = S.1 then 0 else S.2.2.2.2.2.2 k a) = _
                rw [if_neg hne]
              · congr 1
                funext a
                show (if k = S.1 then 0 else S.2.2.2.2.2.1 k a) = _
                rw [if_neg hne]
            rw [this]
        have hRv : mm_Rv S → mm_Rv S' := by
          intro h a b
          rw [hS']
          exact (h a b).mono (Nat.le_succ _)
        refine va_newa (a0 := (n, mm_ac S' S.1 t2)) (N' := n) (ty := mm_at t2) X.1 X.2.1 (by rw [hty]; exact X.2.2.2.2.1 _ h1) hty X.2.2.2.2.2.1 hR.1 hR.2.1 hR.2.2.1 X.2.2.2.2.2.2.1 (fun cA => ?_) ?_ ?_ ?_ ?_ ?_ d (fun q cA H1 hK hP hD hS => ?_)
        · unfold mm_ac
          rw [hS']
          rcases (show t2 = 0 ∨ t2 = 1 ∨ t2 = 2 ∨ t2 = 3 by omega) with rfl | rfl | rfl | rfl <;> (unfold vp_cell; simp [mm_at, defaultValue])
        · rw [Int32.lt_iff_toInt_lt, hv]
          show ¬ (n : Int) < 0
          omega
        · show v.toInt.toNat = n
          omega
        · have : componentBytes (mm_at t2) ≤ 8 := by
            rcases (show t2 = 0 ∨ t2 = 1 ∨ t2 = 2 ∨ t2 = 3 by omega) with rfl | rfl | rfl | rfl <;> decide
          have := Nat.mul_le_mul hn2 this
          omega
        · have := hrm.1
          have := hle.nc
          have h5 := hR.2.2.2.2.1
          unfold mm_nc at *
          rw [hn, he] at *
          omega
        · have := hrm.2
          have := hle.ns
          have h6 := hR.2.2.2.2.2.1
          unfold mm_ns at *
          rw [hn, he] at *
          have e2 : mm_sl (S.1 + 1) = mm_sl S.1 + n := by show mm_sl S.1 + mm_sz S.1 = _; rw [hsz]
          omega
        · have hcA : cA = mm_xt x t2 := by
            have a1 := (hK.2 4 (cA, mm_at t2) rfl).2
            have a2 := (X.2.2.2.2.2.1.2 t2 (mm_xt x t2, mm_at t2) (mm_tys_at ht)).2
            rcases (show t2 = 0 ∨ t2 = 1 ∨ t2 = 2 ∨ t2 = 3 by omega) with rfl | rfl | rfl | rfl <;> exact Option.some.inj (Eq.trans (Eq.symm a1) a2)
          subst hcA
          have hw : mm_w ad (mm_xt x) S ++ [(q, .inl (mm_xt x t2, n, mm_ac S' S.1 t2))] = mm_w (fun k => if k = S.1 then q else ad k) (mm_xt x) S' := by
            rw [mm_w_push hn hlt hce hR.2.2.2.2.2.2.2.2.2.1, mm_ce_A hlay]
          rw [hw] at hP hD
          have k1 := kk (fun k => if k = S.1 then q else ad k) H1 locs (cells + 1) (slots + n) ls (mm_grow hR hn he hlt hsz (fun v h => List.mem_cons_of_mem _ h) hRv hP hD hS)
          have e3 : (Value.ref S.1 :: r).map (mm_cv (fun k => if k = S.1 then q else ad k)) = .ref q :: r.map (mm_cv ad) := by
            rw [List.map_cons, mm_map_ad (n := S.1) (ad := ad) (fun k hk => if_neg (by omega)) (fun k hk => if_neg (by omega)) (fun v h => hR.2.2.2.2.2.2.2.1 v (List.mem_cons_of_mem _ h))]
            show Value.ref (if S.1 = S.1 then q else ad S.1) :: _ = _
            rw [if_pos rfl]
          have k1 : mm_W x H1 locs (cells + 1) (slots + n) Q (F0 (mm_xm x) (pc + 2) ls ((Value.ref S.1 :: r).map (mm_cv (fun k => if k = S.1 then q else ad k)))) := k1
          rw [e3] at k1
          exact k1
      · rw [if_neg hq]
        exact ⟨fun c' e => (by cases e), fun r e => (by cases e)⟩
    · exact ⟨fun c' e => (by cases e), fun r e => (by cases e)⟩
  · exact ⟨fun c' e => (by cases e), fun r e => (by cases e)⟩
end ROWS5
