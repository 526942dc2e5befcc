/-! THE CLAIM OUT OF ONE WALK OF THE LAW'S BODY. Your part is whole_start (and what it stands on); all else here is the same for every law, but numbers. -/
def R_law : String := "LinkcourtLaw"
def lw_P (b : Addr) (xs : List Int32) (args : Array Value) (s : State) : Prop := args = #[.ref b] ∧ s.IntsAt b xs ∧ xs.length ≤ 260 ∧ (Jvm.Cond.and given_1 narrow_1).before args s = true
def lw_Q (_ : Array Value) (s : State) (o : Outcome) (t : State) : Prop := o = .returned (some (.int 1)) ∧ Framed s o t [] 600104 7301314
def lw_Z (below : List Frame) (a : Array Value) (s : State) : State → Prop := fun t => ∃ o, t.status = .running ∧ Ended t below o ∧ lw_Q a s o t
/-- the law's own end, with 1 on the stack, nothing written that was there before, its room as the claim has it -/
theorem lw_ret {p : Program} {l : Launch} {e : Env} {s : State} {m : MethodId} {below : List Frame} {meth : Method} {c : Code} {b : Nat} (hx : p.tables.exec = Jvm.exec) (hb : c.code = code) (hr : meth.sig.returnType = ret) (hlocks : meth.locks = false) {pc : Nat} {H : Heap} {ls : Array Slot} (hdg : decode code pc = .ok (.ireturn, 1)) : W p l e room_1 s m #[Value.ref b] below meth c H [] 600104 7301314 (lw_Z below #[Value.ref b] s) (F0 m pc ls [.int 1]) := by
  intro T hT X
  obtain ⟨fs, hret, hrun, hended, hW, hframe⟩ := X.leave (v := some (.int 1)) (hlocks := hlocks) (fun h => by rw [hr] at h; cases h)
  have hmeth' : T.vm.method? m = some meth := X.method'
  refine ⟨T.setFrames fs, ?_, .returned (some (.int 1)), hrun, hended, rfl, ⟨_, rfl⟩, hW, hframe⟩
  jvm_step X.here [X.here.top, hx, hb, hdg, hmeth', hr, ret, narrow_b1]
  (try refine ⟨rfl, ?_⟩); (try refine ⟨rfl, ?_⟩)
  first | (intro acts; rw [hret _ acts rfl rfl rfl]) | rw [hret _ _ rfl rfl rfl]
  exact Steps.refl _
/-- what holds at the law's entry: the machine, the code, the tables' words (any of lw_tbl by 'hts w (by decide +kernel)'), the script of L ints xs at the cell b, what the Statement gives of the start (any of its parts by flat_of_before) -/
def lw_At (p : Program) (s : State) (m : MethodId) (meth : Method) (c : Code) (b L : Nat) (xs : Nat → Int32) : Prop :=
  p.tables.exec = Jvm.exec ∧ c.code = code ∧ meth.sig.returnType = ret ∧ c.maxLocals = 9 ∧ s.vm.findClass R_law = some m.cls ∧ (∀ w ∈ lw_tbl, w.before #[Value.ref b] s = true) ∧ va_X b L xs s s.heap ∧ b < s.heap.size ∧ meth.locks = false ∧ (Jvm.Cond.and given_1 narrow_1).before #[Value.ref b] s = true
/-! what holds at the law's entry, for the small machine -/
theorem mm_st1 : ∀ q ∈ mm_nest, Cond.methodLinkNest q.1 q.2.1 q.2.2 "Linkcourt" ∈ lw_tbl := by decide +kernel
theorem mm_st2 : ∀ q ∈ mm_strs, Cond.stringRef "Linkcourt" q.1 q.2 ∈ lw_tbl := by decide +kernel
theorem mm_st3 : ∀ q ∈ mm_strs, Cond.exactly (.string "Linkcourt" q.1) "java/lang/String" ∈ flatC (Jvm.Cond.and given_1 narrow_1) := by decide +kernel
theorem mm_st4 : ∀ E ∈ [1, 2, 3], Cond.castable (mm_xn E) (mm_xn E) ∈ lw_tbl := by decide +kernel
theorem mm_st5 : ∀ E ∈ [1, 2, 3], ∀ E' ∈ [1, 2, 3], E ≠ E' → Cond.not (.castable (mm_xn E) (mm_xn E')) ∈ flatC (Jvm.Cond.and given_1 narrow_1) := by decide +kernel
theorem mm_st6 : ∀ q ∈ mm_dcl, Cond.declares q ∈ lw_tbl := by decide +kernel
theorem mm_st7 : ∀ q ∈ mm_sta, Cond.laysStatic q.1 q.2.1 "[I" ∈ lw_tbl ∧ Cond.initialized q.1 ∈ lw_tbl ∧ Cond.arrayOf (.static q.1 q.2.1 "[I") .int ∈ flatC (Jvm.Cond.and given_1 narrow_1) ∧ Cond.eq (.length (.static q.1 q.2.1 "[I")) (.int (Int32.ofNat q.2.2.1)) ∈ flatC (Jvm.Cond.and given_1 narrow_1) ∧ q.2.2.1 = 6 ∧ ∀ j ∈ [0, 1, 2, 3, 4, 5], Cond.eq (.elem (.static q.1 q.2.1 "[I") (.int (Int32.ofNat j))) (.int (q.2.2.2.getD j 0)) ∈ flatC (Jvm.Cond.and given_1 narrow_1) := by decide +kernel
theorem mm_st8 : (Cond.laysStatic Bundle.tN "UNASSIGNED_STACK" Bundle.steD ∈ lw_tbl ∧ Cond.laysStatic Bundle.tN "SUPPRESSED_SENTINEL" Bundle.listD ∈ lw_tbl ∧ Cond.initialized Bundle.tN ∈ lw_tbl) ∧ Cond.isRef (.static Bundle.tN "UNASSIGNED_STACK" Bundle.steD) ∈ flatC (Jvm.Cond.and given_1 narrow_1) ∧ Cond.isRef (.static Bundle.tN "SUPPRESSED_SENTINEL" Bundle.listD) ∈ flatC (Jvm.Cond.and given_1 narrow_1) := by decide +kernel
theorem mm_st9 : ∀ ci, ci < 11 → ∀ q, vwCl[ci]? = some q → Cond.instantiable q.1 q.2.2 ∈ lw_tbl := by
  intro ci h q hq
  match ci, h, hq with
  | 0, _, hq => cases hq; decide +kernel
  | 1, _, hq => cases hq; decide +kernel
  | 2, _, hq => cases hq; decide +kernel
  | 3, _, hq => cases hq; decide +kernel
  | 4, _, hq => cases hq; decide +kernel
  | 5, _, hq => cases hq; decide +kernel
  | 6, _, hq => cases hq; decide +kernel
  | 7, _, hq => cases hq; decide +kernel
  | 8, _, hq => cases hq; decide +kernel
  | 9, _, hq => cases hq; decide +kernel
  | 10, _, hq => cases hq; decide +kernel
  | k + 11, q, _ => omega
theorem mm_st10 : ∀ t ∈ [0, 1, 2, 3], Cond.arrayClass (mm_at t) ∈ lw_tbl := by decide +kernel
def mm_S0 : mm_S := (0, 0, fun _ _ => .null, fun _ _ => 0, fun _ _ => 0, fun _ _ => 0, fun _ _ => 0)
theorem mm_E3 {E : Nat} (h : E = 1 ∨ E = 2 ∨ E = 3) : E ∈ [1, 2, 3] := by
  rcases h with rfl | rfl | rfl <;> decide
theorem mm_start {p : Program} {e : Env} {s : State} {m : MethodId} {below : List Frame} {meth : Method} {c : Code} (l : Launch) (hflags : l.flags = flags0) {b L : Nat} {xs : Nat → Int32} (C0 : lw_At p s m meth c b L xs) :
    ∃ (D : va_G) (tc : Nat → ClassId) (ad : Nat → Nat), ad 2000 = b ∧ mm_X (mm_mk p l e room_1 s m #[.ref b] below meth c D tc (fun q => s.heap.size ≤ q) mm_S0 ad cL_law RL 9) := by
  obtain ⟨hx, hb, hr, hml, hown, hts, hX, hbl, hlocks, hgv⟩ := C0
  have hs := flat_of_before _ hgv
  have hDk : ∀ k : Nat, ∃ z : ClassId × (Nat → Nat), ∀ q, vwCl[k]? = some q → u_Kn s q.1 q.2.1 q.2.2 z.1 z.2 := by
    intro k
    cases hk : vwCl[k]? with
    | none => exact ⟨(0, fun _ => 0), fun q h => (by cases h)⟩
    | some q =>
      obtain ⟨C, T, N⟩ := q
      have hk11 : k < 11 := (List.getElem?_eq_some_iff.mp hk).1
      obtain ⟨cC, iS, h⟩ := u_known (ws := mm_ws) (C := C) (T := T) (N := N) (n := N) (fun w hw => hts w (List.mem_filter.mp hw).1) (mm_uws hk) (hts _ (mm_st9 k hk11 _ hk))
      exact ⟨(cC, iS), fun q h2 => by cases h2; exact h⟩
  obtain ⟨fD, hfD⟩ := Classical.axiomOfChoice hDk
  have htk : ∀ t : Nat, ∃ cA : ClassId, t < 4 → ArrOfT s cA (mm_at t) ∧ va_RA s cA (mm_at t) := by
    intro t
    by_cases ht : t < 4
    · have hm : t ∈ [0, 1, 2, 3] := by
        rcases (show t = 0 ∨ t = 1 ∨ t = 2 ∨ t = 3 by omega) with rfl | rfl | rfl | rfl <;> decide
      obtain ⟨cA, kA, comp, h1, h2, h3⟩ := Cond.arrayClass_spec (hts _ (mm_st10 t hm))
      refine ⟨cA, fun _ => ⟨fun n z => ⟨fun k h => ?_, kA, h2, comp, h3⟩, ?_⟩⟩
      · cases h
      · rcases (show t = 0 ∨ t = 1 ∨ t = 2 ∨ t = 3 by omega) with rfl | rfl | rfl | rfl <;> exact h1
    · exact ⟨0, fun h => absurd h ht⟩
  obtain ⟨tc, htc⟩ := Classical.axiomOfChoice htk
  have hA : ∀ a : Nat, a < s.heap.size → ¬ (fun q : Nat => s.heap.size ≤ q) a := fun a h => Nat.not_le.mpr h
  have hsta : ∀ i : Nat, ∃ t : Nat, ∀ q, mm_sta[i]? = some q → va_Z q.1 q.2.1 "[I" (.ref t) (fun q : Nat => s.heap.size ≤ q) s s.heap ∧ va_T .int t q.2.2.1 (fun j => .int (q.2.2.2.getD j 0)) (fun q : Nat => s.heap.size ≤ q) s s.heap := by
    intro i
    cases hi : mm_sta[i]? with
    | none => exact ⟨0, fun q h => (by cases h)⟩
    | some q =>
      obtain ⟨g1, g2, g3, g4, g5, g6⟩ := mm_st7 q (List.mem_of_getElem? hi)
      obtain ⟨t, ht, hT⟩ := va_Tof (args := #[.ref b]) (tm := .static q.1 q.2.1 "[I") (ty := .int) (N := q.2.2.1) (f := fun j => .int (q.2.2.2.getD j 0)) (A := fun q : Nat => s.heap.size ≤ q) (by rw [g5]; decide) (hs _ g3) (va_eqt (hs _ g4)) (fun j hj => va_eqt (hs _ (g6 j (by
        rw [g5] at hj
        rcases (show j = 0 ∨ j = 1 ∨ j = 2 ∨ j = 3 ∨ j = 4 ∨ j = 5 by omega) with rfl | rfl | rfl | rfl | rfl | rfl <;> decide)))) hA
      exact ⟨t, fun q' h => by cases h; exact ⟨va_Zof (hts _ g1) (hts _ g2) ht hA, hT⟩⟩
  obtain ⟨ta, hta⟩ := Classical.axiomOfChoice hsta
  refine ⟨(fun k => (fD k).1, fun k => (fD k).2), tc, fun k => if k = 2000 then b else ta (k - 1000), rfl, hx, hb, hml, hown, fun w hw => hts w (List.mem_filter.mp hw).1, ⟨fun k q hq => hfD k q hq, fun k q hk => ?_⟩, fun q h => h, ?_, ⟨fun i q hq => ?_, ?_, ?_⟩, hlocks, ?_⟩
  · have hk4 : k < 4 := (List.getElem?_eq_some_iff.mp hk).1
    have h1 : (mm_tys tc)[k]? = some q := hk
    rw [mm_tys_at hk4] at h1
    cases h1
    exact htc k hk4
  · refine ⟨fun q hq => va_Nw.of rfl (hts _ (mm_st1 q hq)), fun q hq => ?_, fun E hE => va_Nw.of rfl (hts _ (mm_st4 E (mm_E3 hE))), fun E E' hE hE' hne => va_Nc.of (hs _ (mm_st5 E (mm_E3 hE) E' (mm_E3 hE') hne)), fun q hq => va_Nw.of rfl (hts _ (mm_st6 q hq))⟩
    obtain ⟨a, c9, cell, k9, h1, -⟩ := Cond.exactly_spec (hs _ (mm_st3 q hq))
    exact ⟨a, vk_R.of (hts _ (mm_st2 q hq)) h1⟩
  · have hi : i < 3 := (List.getElem?_eq_some_iff.mp hq).1
    have e : (if 1000 + i = 2000 then b else ta (1000 + i - 1000)) = ta i := by
      rw [if_neg (by omega), show 1000 + i - 1000 = i by omega]
    show va_Z q.1 q.2.1 "[I" (.ref (if 1000 + i = 2000 then b else ta (1000 + i - 1000))) _ s s.heap ∧ va_T .int (if 1000 + i = 2000 then b else ta (1000 + i - 1000)) _ _ _ s s.heap
    rw [e]
    exact hta i q hq
  · exact vx_Zqof (hts _ mm_st8.1.1) (hts _ mm_st8.1.2.2) (hs _ mm_st8.2.1) hA
  · exact vx_Zqof (hts _ mm_st8.1.2.1) (hts _ mm_st8.1.2.2) (hs _ mm_st8.2.2) hA
  · show (!l.flags.contains noTraceFlag) = false
    rw [hflags]
    decide +kernel
/-- the claim, where the small machine's run of the law is known -/
theorem mm_whole (hpure : ∀ (Ln : Nat) (xs : Nat → Int32), Ln ≤ 260 → ∃ S' : mm_S, mm_run (pc_law Ln xs) (0, mm_en 9 [.ref 2000], [], mm_S0) = some (.inl (some (.int 1)), S') ∧ S'.1 ≤ 79 ∧ S'.2.1 ≤ 100000)
    {p : Program} {e : Env} {s : State} {m : MethodId} {below : List Frame} {meth : Method} {c : Code} (l : Launch) (hflags : l.flags = flags0) {b L : Nat} {xs : Nat → Int32} (hL : L ≤ 260) (C0 : lw_At p s m meth c b L xs) : W p l e room_1 s m #[Value.ref b] below meth c s.heap [] 0 0 (lw_Z below #[Value.ref b] s) (entryFrame m ([Value.ref b] : List Value).toArray 9) := by
  obtain ⟨S', hrun, h79, h512⟩ := hpure L xs hL
  obtain ⟨D, tc, ad, had, X⟩ := mm_start (e := e) (below := below) l hflags C0
  obtain ⟨hx, hb, hr, hml, hown, hts, hX, hbl, hlocks, hgv⟩ := C0
  have hlf : l.stackTraces = false := X.2.2.2.2.2.2.2.2.2.2
  have hend : mm_lawend (mm_mk p l e room_1 s m #[.ref b] below meth c D tc (fun q => s.heap.size ≤ q) mm_S0 ad cL_law RL 9) (lw_Z below #[Value.ref b] s) (.inl (some (.int 1)), S') := by
    refine ⟨rfl, fun pc H locs cells slots ls d hS hc hs => ?_⟩
    refine va_forget (fun q hq => hS.2.2 q hq) ?_
    refine W.widen (k := 600104) (n := 7301314) hc hs ?_
    exact lw_ret hx hb hr hlocks d
  have hth : mm_Th (mm_mk p l e room_1 s m #[.ref b] below meth c D tc (fun q => s.heap.size ≤ q) mm_S0 ad cL_law RL 9) (lw_Z below #[Value.ref b] s) (.inl (some (.int 1)), S') := fun E S2 h => (by cases h)
  obtain ⟨n, hn⟩ := mm_run_iff.mp hrun
  have hW := mm_sound (fun pc => ok_law hlf X hth hX hbl had hend pc) (Tg := (.inl (some (.int 1)), S')) ⟨?_, ?_⟩ n (0, mm_en 9 [.ref 2000], [], mm_S0) hn ad s.heap [] 0 0 _
    ⟨fun k q h => (by cases k <;> cases h), ⟨fun i j p q h => (by cases i <;> cases h), fun k q h => (by cases k <;> cases h)⟩, va_S.rf, mm_en_LH (ad := ad) (vs := [.ref 2000]) (n := 9) (by decide), rfl, rfl, mm_le.rf _, fun v h => (by cases h), mm_en_vk (fun v h k e => by
      rw [List.mem_singleton] at h
      rw [h] at e
      cases e
      exact Or.inr (by decide)), fun k p j e => (by cases e), fun k _ => rfl, fun k _ => rfl⟩
  · rw [lg_entry_eq]
    have e : ([Value.ref 2000] : List Value).map (mm_cv ad) = [.ref b] := by
      show [Value.ref (ad 2000)] = _
      rw [had]
    rw [e] at hW
    exact hW
  · show mm_nc S' - 0 ≤ 600104
    unfold mm_nc
    omega
  · show mm_ns S' - 0 ≤ 7301314
    unfold mm_ns
    have h1 := mm_sl_mono h79
    have h2 : mm_sl 79 ≤ 200000 := by decide +kernel
    omega
