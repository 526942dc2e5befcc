/-! a method's own walk: what stands still in it -/
abbrev mm_cx : Type := Program × Launch × Env × Room × State × MethodId × Array Value × List Frame × Method × Code × va_G × (Nat → ClassId) × (Nat → Prop) × mm_S × (Nat → Nat) × ByteArray × String × Nat
abbrev mm_xp (x : mm_cx) : Program := x.1
abbrev mm_xl (x : mm_cx) : Launch := x.2.1
abbrev mm_xe (x : mm_cx) : Env := x.2.2.1
abbrev mm_xR (x : mm_cx) : Room := x.2.2.2.1
abbrev mm_xs (x : mm_cx) : State := x.2.2.2.2.1
abbrev mm_xm (x : mm_cx) : MethodId := x.2.2.2.2.2.1
abbrev mm_xa (x : mm_cx) : Array Value := x.2.2.2.2.2.2.1
abbrev mm_xb (x : mm_cx) : List Frame := x.2.2.2.2.2.2.2.1
abbrev mm_xh (x : mm_cx) : Method := x.2.2.2.2.2.2.2.2.1
abbrev mm_xc (x : mm_cx) : Code := x.2.2.2.2.2.2.2.2.2.1
abbrev mm_xD (x : mm_cx) : va_G := x.2.2.2.2.2.2.2.2.2.2.1
abbrev mm_xt (x : mm_cx) : Nat → ClassId := x.2.2.2.2.2.2.2.2.2.2.2.1
abbrev mm_xA (x : mm_cx) : Nat → Prop := x.2.2.2.2.2.2.2.2.2.2.2.2.1
abbrev mm_xS (x : mm_cx) : mm_S := x.2.2.2.2.2.2.2.2.2.2.2.2.2.1
abbrev mm_xd (x : mm_cx) : Nat → Nat := x.2.2.2.2.2.2.2.2.2.2.2.2.2.2.1
abbrev mm_xk (x : mm_cx) : ByteArray := x.2.2.2.2.2.2.2.2.2.2.2.2.2.2.2.1
abbrev mm_xo (x : mm_cx) : String := x.2.2.2.2.2.2.2.2.2.2.2.2.2.2.2.2.1
abbrev mm_xn' (x : mm_cx) : Nat := x.2.2.2.2.2.2.2.2.2.2.2.2.2.2.2.2.2
abbrev mm_W (x : mm_cx) (H : Heap) (locs : List Loc) (cells slots : Nat) (Q : State → Prop) (g : JFrame) : Prop := W (mm_xp x) (mm_xl x) (mm_xe x) (mm_xR x) (mm_xs x) (mm_xm x) (mm_xa x) (mm_xb x) (mm_xh x) (mm_xc x) H locs cells slots Q g
def mm_X (x : mm_cx) : Prop :=
  (mm_xp x).tables.exec = Jvm.exec ∧ (mm_xc x).code = mm_xk x ∧ (mm_xc x).maxLocals = mm_xn' x ∧ (mm_xs x).vm.findClass (mm_xo x) = some (mm_xm x).cls ∧ (∀ w ∈ mm_ws, w.before (mm_xa x) (mm_xs x) = true) ∧ va_K (mm_xD x) vwCl (mm_tys (mm_xt x)) (mm_xs x) ∧ (∀ q : Nat, (mm_xs x).heap.size ≤ q → mm_xA x q) ∧ mm_EX (mm_xs x) ∧ mm_Out (mm_xd x) (mm_xA x) (mm_xs x) (mm_xs x).heap ∧ (mm_xh x).locks = false ∧ (mm_xl x).stackTraces = false
/-- cells and slots used -/
def mm_sz (k : Nat) : Nat := match mm_lay k with
  | .inl ci => mm_nf ci
  | .inr q => q.2
def mm_sl : Nat → Nat
  | 0 => 0
  | n + 1 => mm_sl n + mm_sz n
theorem mm_sl_mono {a b : Nat} (h : a ≤ b) : mm_sl a ≤ mm_sl b := by
  induction b with
  | zero => cases Nat.le_zero.mp h; exact Nat.le_refl _
  | succ b ih =>
    rcases Nat.lt_or_ge b a with q | q
    · have : a = b + 1 := by omega
      rw [this]
      exact Nat.le_refl _
    · exact Nat.le_trans (ih q) (Nat.le_add_right _ _)
def mm_nc (S : mm_S) : Nat := S.1 + S.2.1
def mm_ns (S : mm_S) : Nat := mm_sl S.1 + 6 * S.2.1
def mm_le (S T : mm_S) : Prop := S.1 ≤ T.1 ∧ S.2.1 ≤ T.2.1
theorem mm_le.rf (S : mm_S) : mm_le S S := ⟨Nat.le_refl _, Nat.le_refl _⟩
theorem mm_le.tr {S T U : mm_S} (h : mm_le S T) (k : mm_le T U) : mm_le S U := ⟨Nat.le_trans h.1 k.1, Nat.le_trans h.2 k.2⟩
theorem mm_le.nc {S T : mm_S} (h : mm_le S T) : mm_nc S ≤ mm_nc T := Nat.add_le_add h.1 h.2
theorem mm_le.ns {S T : mm_S} (h : mm_le S T) : mm_ns S ≤ mm_ns T := Nat.add_le_add (mm_sl_mono h.1) (Nat.mul_le_mul_left 6 h.2)
/-- how the machine stands, seen from the small one -/
def mm_Rp (x : mm_cx) (ad : Nat → Nat) (S : mm_S) (L : mm_L) (st : List Value) (H : Heap) (locs : List Loc) (cells slots : Nat) (ls : Array Slot) : Prop :=
  va_P (mm_xD x) vwCl (mm_w ad (mm_xt x) S) H ∧ va_D (mm_xA x) (mm_w ad (mm_xt x) S) ∧ va_S (mm_xA x) (mm_xs x).heap H locs ∧ mm_LH ad ls (mm_xn' x) L ∧
  cells = mm_nc S - mm_nc (mm_xS x) ∧ slots = mm_ns S - mm_ns (mm_xS x) ∧ mm_le (mm_xS x) S ∧
  (∀ v ∈ st, mm_vk S.1 v) ∧ (∀ (i : Nat) (v : Value), L[i]? = some (some v) → mm_vk S.1 v) ∧ mm_Rv S ∧ (∀ k, k < (mm_xS x).1 → ad k = mm_xd x k) ∧ (∀ k, 1000 ≤ k → ad k = mm_xd x k)
/-- room for a store -/
def mm_rm (x : mm_cx) (S : mm_S) : Prop := mm_nc S - mm_nc (mm_xS x) ≤ (mm_xR x).cells ∧ mm_ns S - mm_ns (mm_xS x) ≤ (mm_xR x).slots
/-- an instruction of the small machine, held to the machine -/
def mm_row (x : mm_cx) (Q : State → Prop) (Tg : mm_R) (pc : Nat) (f : mm_I) : Prop := ∀ (L : mm_L) (st : List Value) (S : mm_S),
  (∀ c', f L st S = some (.inl c') → mm_le S c'.2.2.2 ∧ ∀ ad H locs cells slots ls, mm_Rp x ad S L st H locs cells slots ls → mm_rm x c'.2.2.2 →
    (∀ ad' H' locs' cells' slots' ls', mm_Rp x ad' c'.2.2.2 c'.2.1 c'.2.2.1 H' locs' cells' slots' ls' → mm_W x H' locs' cells' slots' Q (F0 (mm_xm x) c'.1 ls' (c'.2.2.1.map (mm_cv ad')))) →
    mm_W x H locs cells slots Q (F0 (mm_xm x) pc ls (st.map (mm_cv ad)))) ∧
  (∀ r, f L st S = some (.inr r) → mm_le S r.2 ∧ (r = Tg → ∀ ad H locs cells slots ls, mm_Rp x ad S L st H locs cells slots ls → mm_rm x r.2 → mm_W x H locs cells slots Q (F0 (mm_xm x) pc ls (st.map (mm_cv ad)))))
theorem mm_row_none {x : mm_cx} {Q : State → Prop} {Tg : mm_R} {pc : Nat} : mm_row x Q Tg pc (fun _ _ _ => none) := fun _ _ _ => ⟨fun _ h => (by cases h), fun _ h => (by cases h)⟩
theorem mm_le_ex {x : mm_cx} {Q : State → Prop} {Tg : mm_R} {P : Nat → mm_I} (hr : ∀ pc, mm_row x Q Tg pc (P pc)) : ∀ (n : Nat) (c : mm_C) (r : mm_R), mm_ex P n c = some r → mm_le c.2.2.2 r.2 := by
  intro n
  induction n with
  | zero => intro c r h; cases h
  | succ n ih =>
    intro c r h
    unfold mm_ex at h
    split at h
    · cases h
    · next c' hc => exact ((hr c.1 c.2.1 c.2.2.1 c.2.2.2).1 c' hc).1.tr (ih c' r h)
    · next r' hc =>
      cases h
      exact ((hr c.1 c.2.1 c.2.2.1 c.2.2.2).2 r hc).1
theorem mm_sound {x : mm_cx} {Q : State → Prop} {Tg : mm_R} {P : Nat → mm_I} (hr : ∀ pc, mm_row x Q Tg pc (P pc)) (hrm : mm_rm x Tg.2) : ∀ (n : Nat) (c : mm_C), mm_ex P n c = some Tg →
    ∀ ad H locs cells slots ls, mm_Rp x ad c.2.2.2 c.2.1 c.2.2.1 H locs cells slots ls → mm_W x H locs cells slots Q (F0 (mm_xm x) c.1 ls (c.2.2.1.map (mm_cv ad))) := by
  intro n
  induction n with
  | zero => intro c h; cases h
  | succ n ih =>
    intro c h ad H locs cells slots ls hR
    have h0 := h
    unfold mm_ex at h
    split at h
    · cases h
    · next c' hc =>
      have hle := mm_le_ex hr n c' Tg h
      refine ((hr c.1 c.2.1 c.2.2.1 c.2.2.2).1 c' hc).2 ad H locs cells slots ls hR ⟨?_, ?_⟩ (fun ad' H' locs' cells' slots' ls' hR' => ih c' h ad' H' locs' cells' slots' ls' hR')
      · have := hle.nc
        have := hrm.1
        omega
      · have := hle.ns
        have := hrm.2
        omega
    · next r' hc =>
      cases h
      exact ((hr c.1 c.2.1 c.2.2.1 c.2.2.2).2 Tg hc).2 rfl ad H locs cells slots ls hR hrm
/-- rows that touch the stack alone -/
theorem mm_r_st {x : mm_cx} {Q : State → Prop} {Tg : mm_R} {pc : Nat} {f : mm_I}
    (h : ∀ (L : mm_L) (st : List Value) (S : mm_S), f L st S = none ∨ ∃ n st', f L st S = some (.inl (n, L, st', S)) ∧ (∀ v ∈ st', v ∈ st ∨ (∃ i : Nat, L[i]? = some (some v)) ∨ ∀ k, v ≠ .ref k) ∧
      ∀ ad H locs cells slots ls, mm_LH ad ls (mm_xn' x) L → mm_W x H locs cells slots Q (F0 (mm_xm x) n ls (st'.map (mm_cv ad))) → mm_W x H locs cells slots Q (F0 (mm_xm x) pc ls (st.map (mm_cv ad)))) : mm_row x Q Tg pc f := by
  intro L st S
  rcases h L st S with h | ⟨n, st', h, hv, hw⟩
  · exact ⟨fun c' e => (by rw [h] at e; cases e), fun r e => (by rw [h] at e; cases e)⟩
  · refine ⟨fun c' e => ?_, fun r e => by rw [h] at e; cases e⟩
    rw [h] at e
    cases e
    refine ⟨mm_le.rf S, fun ad H locs cells slots ls hR _ kk => hw ad H locs cells slots ls hR.2.2.2.1 (kk ad H locs cells slots ls ?_)⟩
    obtain ⟨r1, r2, r3, r4, r5, r6, r7, r8, r9, r10⟩ := hR
    refine ⟨r1, r2, r3, r4, r5, r6, r7, fun v hm => ?_, r9, r10⟩
    rcases hv v hm with q | ⟨i, q⟩ | q
    · exact r8 v q
    · exact r9 i v q
    · exact fun k e => absurd e (q k)
section ROWS1
variable {x : mm_cx} {Q : State → Prop} {Tg : mm_R} {pc : Nat}
theorem mm_k_r (v : Value) {n : Nat} (hv : ∀ k, v ≠ .ref k) (h : ∀ H locs cells slots ls rest, mm_W x H locs cells slots Q (F0 (mm_xm x) n ls (v :: rest)) → mm_W x H locs cells slots Q (F0 (mm_xm x) pc ls rest)) : mm_row x Q Tg pc (mm_k n v) := by
  refine mm_r_st (fun L st S => Or.inr ⟨n, v :: st, rfl, fun w hw => ?_, fun ad H locs cells slots ls _ k => ?_⟩)
  · rcases List.mem_cons.mp hw with e | e
    · exact Or.inr (Or.inr (by rw [e]; exact hv))
    · exact Or.inl e
  · have e : mm_cv ad v = v := by cases v <;> first | rfl | exact absurd rfl (hv _)
    rw [List.map_cons, e] at k
    exact h _ _ _ _ _ _ k
theorem mm_r_iconst (X : mm_X x) {n : Int} {v : Int32} (d : decode (mm_xk x) pc = .ok (.iconst n, 1)) (hv : Int32.ofInt n = v) : mm_row x Q Tg pc (mm_k (pc + 1) (.int v)) :=
  mm_k_r _ (fun _ h => by cases h) (fun _ _ _ _ _ _ k => lv_iconst X.1 X.2.1 d hv k)
theorem mm_r_bipush (X : mm_X x) {n : Int} {v : Int32} (d : decode (mm_xk x) pc = .ok (.bipush n, 2)) (hv : (Int8.ofInt n).toInt32 = v) : mm_row x Q Tg pc (mm_k (pc + 2) (.int v)) :=
  mm_k_r _ (fun _ h => by cases h) (fun _ _ _ _ _ _ k => lv_bipush X.1 X.2.1 d hv k)
theorem mm_r_sipush (X : mm_X x) {n : Int} {v : Int32} (d : decode (mm_xk x) pc = .ok (.sipush n, 3)) (hv : (Int16.ofInt n).toInt32 = v) : mm_row x Q Tg pc (mm_k (pc + 3) (.int v)) :=
  mm_k_r _ (fun _ h => by cases h) (fun _ _ _ _ _ _ k => lv_sipush X.1 X.2.1 d hv k)
theorem mm_r_lconst (X : mm_X x) {n : Fin 2} {v : Int64} (d : decode (mm_xk x) pc = .ok (.lconst n, 1)) (hv : Int64.ofNat (n : Nat) = v) : mm_row x Q Tg pc (mm_k (pc + 1) (.long v)) :=
  mm_k_r _ (fun _ h => by cases h) (fun _ _ _ _ _ _ k => lv_lconst X.1 X.2.1 d hv k)
theorem mm_r_ldc (X : mm_X x) {index : Nat} {v : Int32} (d : decode (mm_xk x) pc = .ok (.ldc index, 2)) (hw : Cond.constant (mm_xo x) index v ∈ mm_ws) : mm_row x Q Tg pc (mm_k (pc + 2) (.int v)) :=
  mm_k_r _ (fun _ h => by cases h) (fun _ _ _ _ _ _ k => lv_ldc X.1 X.2.1 X.2.2.2.1 (X.2.2.2.2.1 _ hw) d k)
theorem mm_r_ldcw (X : mm_X x) {index : Nat} {v : Int32} (d : decode (mm_xk x) pc = .ok (.ldc_w index, 3)) (hw : Cond.constant (mm_xo x) index v ∈ mm_ws) : mm_row x Q Tg pc (mm_k (pc + 3) (.int v)) :=
  mm_k_r _ (fun _ h => by cases h) (fun _ _ _ _ _ _ k => lv_ldcw X.1 X.2.1 X.2.2.2.1 (X.2.2.2.2.1 _ hw) d k)
theorem mm_r_ldc2 (X : mm_X x) {index : Nat} {v : Int64} (d : decode (mm_xk x) pc = .ok (.ldc2_w index, 3)) (hw : Cond.constantLong (mm_xo x) index v ∈ mm_ws) : mm_row x Q Tg pc (mm_k (pc + 3) (.long v)) :=
  mm_k_r _ (fun _ h => by cases h) (fun _ _ _ _ _ _ k => lv_ldc2 X.1 X.2.1 X.2.2.2.1 (X.2.2.2.2.1 _ hw) d k)
theorem mm_ld_r {n i : Nat} {f : mm_I} (hf : ∀ L st S, f L st S = none ∨ ∃ v, L[i]? = some (some v) ∧ f L st S = some (.inl (n, L, v :: st, S)) ∧ ∀ ad H locs cells slots ls, ls[i]? = some (Slot.val (mm_cv ad v)) → mm_W x H locs cells slots Q (F0 (mm_xm x) n ls (mm_cv ad v :: st.map (mm_cv ad))) → mm_W x H locs cells slots Q (F0 (mm_xm x) pc ls (st.map (mm_cv ad)))) : mm_row x Q Tg pc f := by
  refine mm_r_st (fun L st S => ?_)
  rcases hf L st S with h | ⟨v, hl, h, hw⟩
  · exact Or.inl h
  · refine Or.inr ⟨n, v :: st, h, fun w hm => ?_, fun ad H locs cells slots ls hL k => hw ad H locs cells slots ls (hL.2.2 i v hl) k⟩
    rcases List.mem_cons.mp hm with e | e
    · exact Or.inr (Or.inl ⟨i, by rw [e]; exact hl⟩)
    · exact Or.inl e
theorem mm_ldI_r {n i : Nat} (h : ∀ H locs cells slots (ls : Array Slot) rest v, ls[i]? = some (Slot.val (.int v)) → mm_W x H locs cells slots Q (F0 (mm_xm x) n ls (.int v :: rest)) → mm_W x H locs cells slots Q (F0 (mm_xm x) pc ls rest)) : mm_row x Q Tg pc (mm_ldI n i) := by
  refine mm_ld_r (n := n) (i := i) (fun L st S => ?_)
  unfold mm_ldI
  split
  · next v hv => exact Or.inr ⟨_, hv, rfl, fun ad H locs cells slots ls hl k => h _ _ _ _ _ _ _ hl k⟩
  · exact Or.inl rfl
theorem mm_ldJ_r {n i : Nat} (h : ∀ H locs cells slots (ls : Array Slot) rest v, ls[i]? = some (Slot.val (.long v)) → mm_W x H locs cells slots Q (F0 (mm_xm x) n ls (.long v :: rest)) → mm_W x H locs cells slots Q (F0 (mm_xm x) pc ls rest)) : mm_row x Q Tg pc (mm_ldJ n i) := by
  refine mm_ld_r (n := n) (i := i) (fun L st S => ?_)
  unfold mm_ldJ
  split
  · next v hv => exact Or.inr ⟨_, hv, rfl, fun ad H locs cells slots ls hl k => h _ _ _ _ _ _ _ hl k⟩
  · exact Or.inl rfl
theorem mm_ldR_r {n i : Nat} (h : ∀ H locs cells slots (ls : Array Slot) rest v, ls[i]? = some (Slot.val (.ref v)) → mm_W x H locs cells slots Q (F0 (mm_xm x) n ls (.ref v :: rest)) → mm_W x H locs cells slots Q (F0 (mm_xm x) pc ls rest)) : mm_row x Q Tg pc (mm_ldR n i) := by
  refine mm_ld_r (n := n) (i := i) (fun L st S => ?_)
  unfold mm_ldR
  split
  · next v hv => exact Or.inr ⟨_, hv, rfl, fun ad H locs cells slots ls hl k => h _ _ _ _ _ _ _ hl k⟩
  · exact Or.inl rfl
theorem mm_r_iload_n (X : mm_X x) {k : Fin 4} {i : Nat} (d : decode (mm_xk x) pc = .ok (.iload_n k, 1)) (hi : (k : Nat) = i) : mm_row x Q Tg pc (mm_ldI (pc + 1) i) := mm_ldI_r (fun _ _ _ _ _ _ _ hl k => lv_iload_n X.1 X.2.1 d hi hl k)
theorem mm_r_iload (X : mm_X x) {i : Nat} (d : decode (mm_xk x) pc = .ok (.iload i, 2)) : mm_row x Q Tg pc (mm_ldI (pc + 2) i) := mm_ldI_r (fun _ _ _ _ _ _ _ hl k => lv_iload X.1 X.2.1 d hl k)
theorem mm_r_lload_n (X : mm_X x) {k : Fin 4} {i : Nat} (d : decode (mm_xk x) pc = .ok (.lload_n k, 1)) (hi : (k : Nat) = i) : mm_row x Q Tg pc (mm_ldJ (pc + 1) i) := mm_ldJ_r (fun _ _ _ _ _ _ _ hl k => lv_lload_n X.1 X.2.1 d hi hl k)
theorem mm_r_lload (X : mm_X x) {i : Nat} (d : decode (mm_xk x) pc = .ok (.lload i, 2)) : mm_row x Q Tg pc (mm_ldJ (pc + 2) i) := mm_ldJ_r (fun _ _ _ _ _ _ _ hl k => lv_lload X.1 X.2.1 d hl k)
theorem mm_r_aload_n (X : mm_X x) {k : Fin 4} {i : Nat} (d : decode (mm_xk x) pc = .ok (.aload_n k, 1)) (hi : (k : Nat) = i) : mm_row x Q Tg pc (mm_ldR (pc + 1) i) := mm_ldR_r (fun _ _ _ _ _ _ _ hl k => lv_aload_n X.1 X.2.1 d hi hl k)
theorem mm_r_aload (X : mm_X x) {i : Nat} (d : decode (mm_xk x) pc = .ok (.aload i, 2)) : mm_row x Q Tg pc (mm_ldR (pc + 2) i) := mm_ldR_r (fun _ _ _ _ _ _ _ hl k => lv_aload X.1 X.2.1 d hl k)
/-- rows that write a local -/
theorem mm_s_r {n i : Nat} {f : mm_I} (w2 : Bool)
    (hf : ∀ L st S, f L st S = none ∨ ∃ v r, f L st S = some (.inl (n, (if w2 then mm_s2 L i v else mm_s1 L i v), r, S)) ∧ (∀ w ∈ r, w ∈ st) ∧ (v ∈ st ∨ ∀ k, v ≠ .ref k) ∧
      ∀ ad H locs cells slots ls, mm_LH ad ls (mm_xn' x) L → (∀ ls', lv_has ls' (mm_xn' x) ((i, mm_cv ad v) :: (mm_as ad L).filter (fun q => if w2 then !(q.1 == i) && (!(q.1 == i + 1) && !(q.1 + 1 == i && q.2.category == 2)) else !(q.1 == i) && !(q.1 + 1 == i && q.2.category == 2))) → mm_W x H locs cells slots Q (F0 (mm_xm x) n ls' (r.map (mm_cv ad)))) → mm_W x H locs cells slots Q (F0 (mm_xm x) pc ls (st.map (mm_cv ad)))) : mm_row x Q Tg pc f := by
  intro L st S
  rcases hf L st S with h | ⟨v, r, h, hr, hv, hw⟩
  · exact ⟨fun c' e => (by rw [h] at e; cases e), fun r e => (by rw [h] at e; cases e)⟩
  · refine ⟨fun c' e => ?_, fun r e => by rw [h] at e; cases e⟩
    rw [h] at e
    cases e
    refine ⟨mm_le.rf S, fun ad H locs cells slots ls hR _ kk => hw ad H locs cells slots ls hR.2.2.2.1 (fun ls' hl => kk ad H locs cells slots ls' ?_)⟩
    obtain ⟨r1, r2, r3, r4, r5, r6, r7, r8, r9, r10⟩ := hR
    have hvk : mm_vk S.1 v := by
      rcases hv with q | q
      · exact r8 v q
      · exact fun k e => absurd e (q k)
    cases w2 with
    | true => exact ⟨r1, r2, r3, mm_LH.st2 hl, r5, r6, r7, fun w hm => r8 w (hr w hm), mm_s2_vk r9 hvk, r10⟩
    | false => exact ⟨r1, r2, r3, mm_LH.st1 hl, r5, r6, r7, fun w hm => r8 w (hr w hm), mm_s1_vk r9 hvk, r10⟩
theorem mm_r_istore_n (X : mm_X x) {k : Fin 4} {i : Nat} (d : decode (mm_xk x) pc = .ok (.istore_n k, 1)) (hi : (k : Nat) = i) (hn : i < mm_xn' x) : mm_row x Q Tg pc (mm_stI (pc + 1) i) := by
  refine mm_s_r (n := pc + 1) (i := i) false (fun L st S => ?_)
  unfold mm_stI
  split
  · next v r => exact Or.inr ⟨.int v, r, rfl, fun w h => List.mem_cons_of_mem _ h, Or.inr (fun _ h => by cases h), fun ad H locs cells slots ls hL kk => lv_istore_n X.1 X.2.1 d hi hL.has hn rfl kk⟩
  · exact Or.inl rfl
theorem mm_r_istore (X : mm_X x) {i : Nat} (d : decode (mm_xk x) pc = .ok (.istore i, 2)) (hn : i < mm_xn' x) : mm_row x Q Tg pc (mm_stI (pc + 2) i) := by
  refine mm_s_r (n := pc + 2) (i := i) false (fun L st S => ?_)
  unfold mm_stI
  split
  · next v r => exact Or.inr ⟨.int v, r, rfl, fun w h => List.mem_cons_of_mem _ h, Or.inr (fun _ h => by cases h), fun ad H locs cells slots ls hL kk => lv_istore X.1 X.2.1 d hL.has hn rfl kk⟩
  · exact Or.inl rfl
theorem mm_r_lstore_n (X : mm_X x) {k : Fin 4} {i : Nat} (d : decode (mm_xk x) pc = .ok (.lstore_n k, 1)) (hi : (k : Nat) = i) (hn : i + 1 < mm_xn' x) : mm_row x Q Tg pc (mm_stJ (pc + 1) i) := by
  refine mm_s_r (n := pc + 1) (i := i) true (fun L st S => ?_)
  unfold mm_stJ
  split
  · next v r => exact Or.inr ⟨.long v, r, rfl, fun w h => List.mem_cons_of_mem _ h, Or.inr (fun _ h => by cases h), fun ad H locs cells slots ls hL kk => lv_lstore_n X.1 X.2.1 d hi hL.has hn rfl kk⟩
  · exact Or.inl rfl
theorem mm_r_lstore (X : mm_X x) {i : Nat} (d : decode (mm_xk x) pc = .ok (.lstore i, 2)) (hn : i + 1 < mm_xn' x) : mm_row x Q Tg pc (mm_stJ (pc + 2) i) := by
  refine mm_s_r (n := pc + 2) (i := i) true (fun L st S => ?_)
  unfold mm_stJ
  split
  · next v r => exact Or.inr ⟨.long v, r, rfl, fun w h => List.mem_cons_of_mem _ h, Or.inr (fun _ h => by cases h), fun ad H locs cells slots ls hL kk => lv_lstore X.1 X.2.1 d hL.has hn rfl kk⟩
  · exact Or.inl rfl
theorem mm_r_astore_n (X : mm_X x) {k : Fin 4} {i : Nat} (d : decode (mm_xk x) pc = .ok (.astore_n k, 1)) (hi : (k : Nat) = i) (hn : i < mm_xn' x) : mm_row x Q Tg pc (mm_stR (pc + 1) i) := by
  refine mm_s_r (n := pc + 1) (i := i) false (fun L st S => ?_)
  unfold mm_stR
  split
  · next v r => exact Or.inr ⟨.ref v, r, rfl, fun w h => List.mem_cons_of_mem _ h, Or.inl List.mem_cons_self, fun ad H locs cells slots ls hL kk => lv_astore_n X.1 X.2.1 d hi hL.has hn rfl kk⟩
  · exact Or.inl rfl
theorem mm_r_astore (X : mm_X x) {i : Nat} (d : decode (mm_xk x) pc = .ok (.astore i, 2)) (hn : i < mm_xn' x) : mm_row x Q Tg pc (mm_stR (pc + 2) i) := by
  refine mm_s_r (n := pc + 2) (i := i) false (fun L st S => ?_)
  unfold mm_stR
  split
  · next v r => exact Or.inr ⟨.ref v, r, rfl, fun w h => List.mem_cons_of_mem _ h, Or.inl List.mem_cons_self, fun ad H locs cells slots ls hL kk => lv_astore X.1 X.2.1 d hL.has hn rfl kk⟩
  · exact Or.inl rfl
theorem mm_r_iinc (X : mm_X x) {i : Nat} {n : Int} {v : Int32} (d : decode (mm_xk x) pc = .ok (.iinc i n, 3)) (hv : Int32.ofInt n = v) (hn : i < mm_xn' x) : mm_row x Q Tg pc (mm_inc (pc + 3) i v) := by
  refine mm_s_r (n := pc + 3) (i := i) false (fun L st S => ?_)
  unfold mm_inc
  split
  · next w hw =>
    refine Or.inr ⟨.int (w + v), st, rfl, fun w h => h, Or.inr (fun _ h => by cases h), fun ad H locs cells slots ls hL kk => ?_⟩
    obtain ⟨k, hk⟩ := List.getElem?_of_mem (mm_as_mem (ad := ad) (q := (i, .int w)).mpr ⟨.int w, hw, rfl⟩)
    exact lv_iinc (v := w + v) X.1 X.2.1 d hL.has hk (by rw [hv]) hn rfl kk
  · exact Or.inl rfl
end ROWS1
