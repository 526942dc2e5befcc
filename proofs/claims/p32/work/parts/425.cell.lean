/-! a method of the law that reads the script: its contract is given the script beside the world -/
def mm_OkC (l : Launch) (y : MethodName) (b : ByteArray) (mL : Nat) (ret : Option FieldType) (fr lo Ln : Nat) (xs : Nat → Int32) (ts : List (Nat × mm_I)) : Prop :=
  (∀ q ∈ ts, mm_mn q.2) ∧ ∀ (p : Program) (e : Env) (cells slots : Nat) (s : State) (m : MethodId) (args : Array Value) (below : List Frame) (meth : Method) (c : Code) (D : va_G) (tc : Nat → ClassId) (A : Nat → Prop) (S : mm_S) (ad : Nat → Nat) (b2 : Nat) (Tg : mm_R),
    mm_X (mm_mk p l e { frames := fr, cells := cells, slots := slots, locals := lo } s m args below meth c D tc A S ad b y.cls mL) → meth.sig.returnType = ret → meth.name = y.name → (∀ z ∈ c.exceptionTable.toList, False) →
    mm_Th (mm_mk p l e { frames := fr, cells := cells, slots := slots, locals := lo } s m args below meth c D tc A S ad b y.cls mL) (mm_Q (mm_mk p l e { frames := fr, cells := cells, slots := slots, locals := lo } s m args below meth c D tc A S ad b y.cls mL) Tg) Tg →
    va_X b2 Ln xs s s.heap → b2 < s.heap.size → ad 2000 = b2 → ¬ A b2 →
    ∀ q ∈ ts, mm_row (mm_mk p l e { frames := fr, cells := cells, slots := slots, locals := lo } s m args below meth c D tc A S ad b y.cls mL) (mm_Q (mm_mk p l e { frames := fr, cells := cells, slots := slots, locals := lo } s m args below meth c D tc A S ad b y.cls mL) Tg) Tg q.1 q.2
def mm_PcC (D : va_G) (tc : Nat → ClassId) (ad : Nat → Nat) (S : mm_S) (as : List Value) (sz b2 Ln : Nat) (xs : Nat → Int32) : Array Value → State → Prop := fun a U => mm_Pc D tc ad S as sz a U ∧ va_X b2 Ln xs U U.heap
def mm_SndC (l : Launch) (y : MethodName) (hd : Cond) (fr lo Ln : Nat) (xs : Nat → Int32) (f : mm_F) : Prop :=
  mm_Mo f ∧ ∀ D tc ad S as r sz b2, f as S = some r → (∀ v ∈ as, mm_vk S.1 v) → mm_Rv S → b2 < sz → ad 2000 = b2 → ¬ va_A (mm_w ad tc S) sz b2 →
    vx_Met l y (hd :: mm_ws) { frames := fr, cells := mm_nc r.2 - mm_nc S, slots := mm_ns r.2 - mm_ns S, locals := lo } (mm_PcC D tc ad S as sz b2 Ln xs) (mm_Qc D tc ad S (va_A (mm_w ad tc S) sz) r) (mm_XC D tc ad S (va_A (mm_w ad tc S) sz) r) (mm_nc r.2 - mm_nc S) (mm_ns r.2 - mm_ns S) (va_A (mm_w ad tc S) sz)
theorem mm_blindC {D : va_G} {tc : Nat → ClassId} {ad : Nat → Nat} {S : mm_S} {as : List Value} {sz b2 Ln : Nat} {xs : Nat → Int32} : FrameBlind (mm_PcC D tc ad S as sz b2 Ln xs) := by
  intro a U g mk q
  obtain ⟨q0, q1⟩ := q
  exact ⟨mm_blind a U g mk q0, va_X.moved (u := U) (U := U.calling g mk a) (Vm.Alike.refl U.vm) q1⟩
theorem mm_metC {l : Launch} {y : MethodName} {b : ByteArray} {mL fr lo Ln : Nat} {xs : Nat → Int32} {ret : Option FieldType} {ts : List (Nat × mm_I)} (hl : l.stackTraces = false) (hy : plainFor y = true) (hOk : mm_OkC l y b mL ret fr lo Ln xs ts) : mm_SndC l y (.code y b mL ret) fr lo Ln xs (mm_do (mm_pr ts) mL) := by
  have hdo : ∀ as S r, mm_do (mm_pr ts) mL as S = some r → (mm_la as).length ≤ mL ∧ mm_run (mm_pr ts) (0, mm_en mL as, [], S) = some r := by
    intro as S r h
    unfold mm_do at h
    cases hb : Nat.ble (mm_la as).length mL with
    | false => rw [hb] at h; cases h
    | true => rw [hb] at h; exact ⟨Nat.le_of_ble_eq_true hb, h⟩
  have hmo : mm_Mo (mm_do (mm_pr ts) mL) := fun as S r h => mm_mn_run (c := (0, mm_en mL as, [], S)) (mm_pr_mn hOk.1) (hdo as S r h).2
  refine ⟨hmo, fun D tc ad S as r sz b2 hf hv hRv hb2 had hbA => ?_⟩
  refine mm_ofW (cc := b) (maxL := mL) (ret := ret) hy rfl ?_
  intro p e s m args below meth c s₁ B hml htab hPc
  obtain ⟨⟨rfl, hsz, hP, hK, hD, hEX, hO⟩, hX⟩ := hPc
  subst hsz
  have hts := atoms_spec (ws := Cond.code y b mL ret :: mm_ws) B.pre
  have X : mm_X (mm_mk p l e { frames := fr, cells := mm_nc r.2 - mm_nc S, slots := mm_ns r.2 - mm_ns S, locals := lo } s m (as.map (mm_cv ad)).toArray below meth c D tc (va_A (mm_w ad tc S) s.heap.size) S ad b y.cls mL) :=
    ⟨B.exec, B.bytes, hml, findClass_of_methodNamed B.named, fun w hw => hts w (List.mem_cons_of_mem _ hw), hK, fun q h => Or.inr h, hEX, hO, B.notSynchronized, hl⟩
  have hrows := hOk.2 p e (mm_nc r.2 - mm_nc S) (mm_ns r.2 - mm_ns S) s m _ below meth c D tc _ S ad b2 r X B.returns (name_of_methodNamed B.named B.method).1 htab (mm_th_out X htab) hX hb2 had hbA
  obtain ⟨n, hn⟩ := mm_run_iff.mp (hdo as S r hf).2
  have hW := mm_sound (fun pc => mm_pr_row hrows pc) ⟨Nat.le_refl _, Nat.le_refl _⟩ n (0, mm_en mL as, [], S) hn ad s.heap [] 0 0 _ ⟨hP, hD.self, va_S.rf, mm_en_LH (hdo as S r hf).1, (Nat.sub_self _).symm, (Nat.sub_self _).symm, mm_le.rf S, fun v h => (by cases h), mm_en_vk hv, hRv, fun k _ => rfl, fun k _ => rfl⟩
  rw [lg_entry_eq]
  exact hW
section CELL
variable {x : mm_cx} {Q : State → Prop} {Tg : mm_R} {pc : Nat}
theorem mm_preC (X : mm_X x) {b2 Ln : Nat} {xs : Nat → Int32} (hX : va_X b2 Ln xs (mm_xs x) (mm_xs x).heap) (hbl : b2 < (mm_xs x).heap.size) (hbA : ¬ mm_xA x b2) {ad : Nat → Nat} {S : mm_S} {L : mm_L} {st as : List Value} {H : Heap} {locs : List Loc} {cells slots : Nat} {ls : Array Slot} (hR : mm_Rp x ad S L st H locs cells slots ls) {av : List Value} (hav : as.map (mm_cv ad) = av) :
    PreS (mm_xs x) H (mm_PcC (mm_xD x) (mm_xt x) ad S as H.size b2 Ln xs) av := by
  have hp := mm_pre (as := as) X hR hav
  refine ⟨mm_blindC, fun U hU hW => ⟨hp.2 U hU hW, ?_⟩⟩
  rw [hU]
  exact va_X.moved hW.alike (va_X.kept hX (hR.2.2.1.2.1 b2 hbl hbA))
theorem mm_r_clCell (X : mm_X x) (hth : mm_Th x Q Tg) {index na mL fr lo Ln b2 : Nat} {xs : Nat → Int32} {y : MethodName} {b : ByteArray} {ret : Option FieldType} {f : mm_F} (hS : mm_SndC (mm_xl x) y (.code y b mL ret) fr lo Ln xs f) (hX : va_X b2 Ln xs (mm_xs x) (mm_xs x).heap) (hbl : b2 < (mm_xs x).heap.size) (hb2 : mm_xd x 2000 = b2) (hbA : ¬ (mm_xs x).heap.size ≤ b2) (hA : ∀ q : Nat, mm_xA x q → (mm_xs x).heap.size ≤ q) (d : decode (mm_xk x) pc = .ok (.invokestatic index, 3))
    (hcode : Cond.code y b mL ret ∈ mm_ws) (h1 : Cond.methodLink (mm_xo x) index y ∈ mm_ws) (h2 : Cond.static y ∈ mm_ws) (h4 : Cond.initialized y.cls ∈ mm_ws)
    (hd : y.cls ≠ "java/lang/invoke/MethodHandle" ∧ y.cls ≠ "java/lang/invoke/VarHandle" ∧ (parseMethodDescriptor y.desc).map (fun d => d.parameters.length) = some na) (hR9 : fr + 1 ≤ (mm_xR x).frames ∧ 8 + (mL + 11) + lo ≤ (mm_xR x).locals) : mm_row x Q Tg pc (mm_clS (pc + 3) na f) := by
  refine mm_clS_r X hth hS.1 (fun L st S r ad H locs cells slots ls hlen hcat hf hRp hroom hn hsp => ?_)
  have hbA2 : ¬ mm_xA x b2 := fun h => hbA (hA b2 h)
  have hsub := mm_subA X hRp
  refine vx_runS (nL := mm_xn' x) ⟨X.1, X.2.1, X.2.2.1, X.2.2.2.1, X.2.2.2.2.1⟩ (hS.2 (mm_xD x) (mm_xt x) ad S _ r H.size b2 hf (fun v h => hRp.2.2.2.2.2.2.2.1 v (mm_take_rev v h)) hRp.2.2.2.2.2.2.2.2.2.1 (Nat.lt_of_lt_of_le hbl hRp.2.2.1.1) (by rw [hRp.2.2.2.2.2.2.2.2.2.2.2 2000 (by decide), hb2]) (fun h => hbA2 (hsub b2 h)))
    (va_cwS na X.2.2.2.2.1 (fun w hw => ?_) rfl rfl rfl hd hR9) (mm_preC X hX hbl hbA2 hRp rfl) rfl hn hRp.2.2.2.1.1 hsp (by rw [mm_cv_sum]; show 2 * 0 + mm_cat _ ≤ 8; omega) d hroom
  rcases List.mem_append.mp hw with e | e
  · simp only [List.mem_cons, List.not_mem_nil, or_false] at e
    rcases e with rfl | rfl | rfl
    · exact ⟨h1, good_of_word rfl⟩
    · exact ⟨h2, good_of_word rfl⟩
    · exact ⟨h4, good_of_word rfl⟩
  · exact mm_cwB X hcode w e
end CELL
