/-! two objects: what a code does of one of them it does of the other one -/
def pi (k : Nat) : Nat := if k < 39 then k + 39 else if k < 78 then k - 39 else k
theorem pi_pi (k : Nat) : pi (pi k) = k := by
  unfold pi
  by_cases h1 : k < 39
  · rw [if_pos h1, if_neg (by omega), if_pos (by omega)]; omega
  · rw [if_neg h1]
    by_cases h2 : k < 78
    · rw [if_pos h2, if_pos (by omega)]; omega
    · rw [if_neg h2, if_neg h1, if_neg h2]
theorem pi_lo {k : Nat} (h : k < 39) : pi k = k + 39 := if_pos h
theorem pi_hi {k : Nat} (h1 : 39 ≤ k) (h2 : k < 78) : pi k = k - 39 := by unfold pi; rw [if_neg (by omega), if_pos h2]
theorem pi_out {k : Nat} (h1 : 78 ≤ k) : pi k = k := by unfold pi; rw [if_neg (by omega), if_neg (by omega)]
theorem pi_eq {i k : Nat} : pi i = k ↔ i = pi k := ⟨fun h => by rw [← h, pi_pi], fun h => by rw [h, pi_pi]⟩
theorem pi_lay79 : ∀ k : Fin 79, mm_lay (pi k.1) = mm_lay k.1 := by decide +kernel
theorem pi_lay {k : Nat} (h : k < 79) : mm_lay (pi k) = mm_lay k := pi_lay79 ⟨k, h⟩
def pV : Value → Value
  | .ref k => .ref (pi k)
  | v => v
theorem pV_cat (v : Value) : (pV v).category = v.category := by cases v <;> rfl
abbrev pL (L : mm_L) : mm_L := L.map (Option.map pV)
def pT {α : Type} (dd : Nat) (T f : Nat → Nat → α) : Nat → Nat → α := fun i j => if dd = 39 ∧ i < 39 then T i j else f (pi i) j
def pTR (dd : Nat) (T f : Nat → Nat → Value) : Nat → Nat → Value := fun i j => if dd = 39 ∧ i < 39 then T i j else pV (f (pi i) j)
def pS (dd : Nat) (T S : mm_S) : mm_S := (S.1 + dd, S.2.1, pTR dd T.2.2.1 S.2.2.1, pT dd T.2.2.2.1 S.2.2.2.1, pT dd T.2.2.2.2.1 S.2.2.2.2.1, pT dd T.2.2.2.2.2.1 S.2.2.2.2.2.1, pT dd T.2.2.2.2.2.2 S.2.2.2.2.2.2)
def Gd (dd n : Nat) : Prop := (dd = 0 ∧ n = 79) ∨ (dd = 39 ∧ n ≤ 39)
theorem Gd.lay {dd n k : Nat} (g : Gd dd n) (h : k < n) : mm_lay (pi k) = mm_lay k := by
  rcases g with ⟨_, q⟩ | ⟨_, q⟩ <;> exact pi_lay (by omega)
theorem Gd.lt {dd n k : Nat} (g : Gd dd n) (h : k < n) : pi k < n + dd := by
  rcases g with ⟨q1, q2⟩ | ⟨q1, q2⟩
  · subst q1 q2
    unfold pi
    split
    · omega
    · split <;> omega
  · subst q1
    rw [pi_lo (by omega)]
    omega
theorem Gd.no {dd n k : Nat} (g : Gd dd n) (h : k < n) : ¬ (dd = 39 ∧ pi k < 39) := by
  rintro ⟨a, b⟩
  rcases g with ⟨q1, q2⟩ | ⟨q1, q2⟩
  · omega
  · rw [pi_lo (by omega)] at b; omega
section
variable {dd : Nat} {T : mm_S}
theorem pT_at {α : Type} {Tf f : Nat → Nat → α} {n k j : Nat} (g : Gd dd n) (h : k < n) : pT dd Tf f (pi k) j = f k j := by
  unfold pT
  rw [if_neg (g.no h), pi_pi]
theorem pTR_at {Tf f : Nat → Nat → Value} {n k j : Nat} (g : Gd dd n) (h : k < n) : pTR dd Tf f (pi k) j = pV (f k j) := by
  unfold pTR
  rw [if_neg (g.no h), pi_pi]
theorem pT_ap {α : Type} (Tf f : Nat → Nat → α) (i j : Nat) : pT dd Tf f i j = if dd = 39 ∧ i < 39 then Tf i j else f (pi i) j := rfl
theorem pTR_ap (Tf f : Nat → Nat → Value) (i j : Nat) : pTR dd Tf f i j = if dd = 39 ∧ i < 39 then Tf i j else pV (f (pi i) j) := rfl
theorem mm_up_ap {α : Type} (f : Nat → Nat → α) (k p : Nat) (v : α) (i j : Nat) : mm_up f k p v i j = if i = k then (if j = p then v else f i j) else f i j := rfl
theorem pT_up {α : Type} {Tf f : Nat → Nat → α} {n k p : Nat} {v : α} (g : Gd dd n) (h : k < n) : pT dd Tf (mm_up f k p v) = mm_up (pT dd Tf f) (pi k) p v := by
  funext i j
  by_cases c : dd = 39 ∧ i < 39
  · have hn := g.no h
    rw [pT_ap, if_pos c, mm_up_ap, if_neg (fun e => hn ⟨c.1, by rw [← e]; exact c.2⟩), pT_ap, if_pos c]
  · rw [pT_ap, if_neg c, mm_up_ap, mm_up_ap]
    by_cases e : i = pi k
    · rw [if_pos (pi_eq.2 e), if_pos e]
      by_cases q : j = p
      · rw [if_pos q, if_pos q]
      · rw [if_neg q, if_neg q, pT_ap, if_neg c]
    · rw [if_neg (fun z => e (pi_eq.1 z)), if_neg e, pT_ap, if_neg c]
theorem pTR_up {Tf f : Nat → Nat → Value} {n k p : Nat} {v : Value} (g : Gd dd n) (h : k < n) : pTR dd Tf (mm_up f k p v) = mm_up (pTR dd Tf f) (pi k) p (pV v) := by
  funext i j
  by_cases c : dd = 39 ∧ i < 39
  · have hn := g.no h
    rw [pTR_ap, if_pos c, mm_up_ap, if_neg (fun e => hn ⟨c.1, by rw [← e]; exact c.2⟩), pTR_ap, if_pos c]
  · rw [pTR_ap, if_neg c, mm_up_ap, mm_up_ap]
    by_cases e : i = pi k
    · rw [if_pos (pi_eq.2 e), if_pos e]
      by_cases q : j = p
      · rw [if_pos q, if_pos q]
      · rw [if_neg q, if_neg q, pTR_ap, if_neg c]
    · rw [if_neg (fun z => e (pi_eq.1 z)), if_neg e, pTR_ap, if_neg c]
theorem pi_zn {n i : Nat} (h : n < 39) : pi i = n ↔ i = n + 39 := by rw [pi_eq, pi_lo h]
theorem pT_z {α : Type} {Tf f : Nat → Nat → α} {n : Nat} {v : α} (hd : dd = 39) (h : n < 39) : pT dd Tf (fun i j => if i = n then v else f i j) = fun i j => if i = n + 39 then v else pT dd Tf f i j := by
  funext i j
  show (if dd = 39 ∧ i < 39 then Tf i j else (if pi i = n then v else f (pi i) j)) = (if i = n + 39 then v else (if dd = 39 ∧ i < 39 then Tf i j else f (pi i) j))
  by_cases c : dd = 39 ∧ i < 39
  · rw [if_pos c, if_neg (by omega), if_pos c]
  · rw [if_neg c, if_neg c]
    by_cases e : i = n + 39
    · rw [if_pos ((pi_zn h).2 e), if_pos e]
    · rw [if_neg (fun z => e ((pi_zn h).1 z)), if_neg e]
theorem pTR_z {Tf f : Nat → Nat → Value} {n : Nat} (hd : dd = 39) (h : n < 39) : pTR dd Tf (fun i j => if i = n then .null else f i j) = fun i j => if i = n + 39 then .null else pTR dd Tf f i j := by
  funext i j
  show (if dd = 39 ∧ i < 39 then Tf i j else pV (if pi i = n then .null else f (pi i) j)) = (if i = n + 39 then .null else (if dd = 39 ∧ i < 39 then Tf i j else pV (f (pi i) j)))
  by_cases c : dd = 39 ∧ i < 39
  · rw [if_pos c, if_neg (by omega), if_pos c]
  · rw [if_neg c, if_neg c]
    by_cases e : i = n + 39
    · rw [if_pos ((pi_zn h).2 e), if_pos e]; rfl
    · rw [if_neg (fun z => e ((pi_zn h).1 z)), if_neg e]
theorem isO_pi {S : mm_S} {k ci : Nat} (g : Gd dd S.1) (h : mm_isO S k ci = true) : k < S.1 ∧ mm_isO (pS dd T S) (pi k) ci = true := by
  unfold mm_isO at h ⊢
  rw [Bool.and_eq_true] at h
  have hk := Nat.le_of_ble_eq_true h.1
  refine ⟨hk, ?_⟩
  rw [g.lay hk, h.2, Bool.and_true]
  exact Nat.ble_eq_true_of_le (g.lt hk)
theorem isA_pi {S : mm_S} {k t : Nat} (g : Gd dd S.1) (h : mm_isA S k t = true) : k < S.1 ∧ mm_isA (pS dd T S) (pi k) t = true := by
  unfold mm_isA at h ⊢
  rw [Bool.and_eq_true] at h
  have hk := Nat.le_of_ble_eq_true h.1
  refine ⟨hk, ?_⟩
  rw [g.lay hk, h.2, Bool.and_true]
  exact Nat.ble_eq_true_of_le (g.lt hk)
theorem ln_pi {n k : Nat} (g : Gd dd n) (h : k < n) : mm_ln (pi k) = mm_ln k := by
  unfold mm_ln
  rw [g.lay h]
end
def pR (dd : Nat) (T : mm_S) (r : mm_R) : mm_R := (match r.1 with
  | .inl v => .inl (v.map pV)
  | .inr E => .inr E, pS dd T r.2)
def pC (dd : Nat) (T : mm_S) (c : mm_C) : mm_C := (c.1, pL c.2.1, c.2.2.1.map pV, pS dd T c.2.2.2)
def pO (dd : Nat) (T : mm_S) : mm_C ⊕ mm_R → mm_C ⊕ mm_R
  | .inl c => .inl (pC dd T c)
  | .inr r => .inr (pR dd T r)
def zS : mm_C ⊕ mm_R → mm_S
  | .inl c => c.2.2.2
  | .inr r => r.2
/-- an instruction does of the other object what it does of the one -/
def mm_Q1 (dd : Nat) (T : mm_S) (f : mm_I) : Prop := ∀ L st S z, f L st S = some z → Gd dd S.1 → Gd dd (zS z).1 → f (pL L) (st.map pV) (pS dd T S) = some (pO dd T z)
def mm_QF (dd : Nat) (T : mm_S) (f : mm_F) : Prop := ∀ as S r, f as S = some r → Gd dd S.1 → Gd dd r.2.1 → f (as.map pV) (pS dd T S) = some (pR dd T r)
def mm_allq (dd : Nat) (T : mm_S) : List (Nat × mm_I) → Prop
  | [] => True
  | q :: r => mm_Q1 dd T q.2 ∧ mm_allq dd T r
theorem mm_allq_mem {dd : Nat} {T : mm_S} {ts : List (Nat × mm_I)} (h : mm_allq dd T ts) : ∀ q ∈ ts, mm_Q1 dd T q.2 := by
  induction ts with
  | nil => intro q hq; cases hq
  | cons a r ih =>
    intro q hq
    rcases List.mem_cons.mp hq with e | e
    · rw [e]; exact h.1
    · exact ih h.2 q e
theorem Gd.mid {dd a b c : Nat} (h1 : Gd dd a) (h2 : Gd dd c) (h3 : a ≤ b) (h4 : b ≤ c) : Gd dd b := by
  rcases h1 with ⟨q1, q2⟩ | ⟨q1, q2⟩
  · rcases h2 with ⟨q3, q4⟩ | ⟨q3, q4⟩
    · exact Or.inl ⟨q1, by omega⟩
    · omega
  · rcases h2 with ⟨q3, q4⟩ | ⟨q3, q4⟩
    · omega
    · exact Or.inr ⟨q1, by omega⟩
theorem mm_pr_q {dd : Nat} {T : mm_S} {ts : List (Nat × mm_I)} (h : ∀ q ∈ ts, mm_Q1 dd T q.2) (pc : Nat) : mm_Q1 dd T (mm_pr ts pc) := by
  unfold mm_pr
  split
  · next q hq => exact h q (List.mem_of_find?_eq_some hq)
  · exact fun _ _ _ _ h => (by cases h)
theorem mm_q_run {dd : Nat} {T : mm_S} {P : Nat → mm_I} (hm : ∀ pc, mm_mn (P pc)) (hq : ∀ pc, mm_Q1 dd T (P pc)) : ∀ (n : Nat) (c : mm_C) (r : mm_R), mm_ex P n c = some r → Gd dd c.2.2.2.1 → Gd dd r.2.1 → mm_ex P n (pC dd T c) = some (pR dd T r) := by
  intro n
  induction n with
  | zero => intro c r h; cases h
  | succ n ih =>
    intro c r h g1 g2
    unfold mm_ex at h ⊢
    split at h
    · cases h
    · next c' hc =>
      have m1 := ((hm c.1) c.2.1 c.2.2.1 c.2.2.2).1 c' hc
      have m2 := mm_mn_run hm (mm_run_iff.mpr ⟨n, h⟩)
      have gm : Gd dd c'.2.2.2.1 := g1.mid g2 m1.1 m2.1
      have k := hq c.1 c.2.1 c.2.2.1 c.2.2.2 (.inl c') hc g1 gm
      show (match P c.1 (pL c.2.1) (c.2.2.1.map pV) (pS dd T c.2.2.2) with
        | none => none
        | some (.inl c') => mm_ex P n c'
        | some (.inr r) => some r) = _
      rw [k]
      exact ih c' r h gm g2
    · next r' hc =>
      cases h
      have k := hq c.1 c.2.1 c.2.2.1 c.2.2.2 (.inr r) hc g1 g2
      show (match P c.1 (pL c.2.1) (c.2.2.1.map pV) (pS dd T c.2.2.2) with
        | none => none
        | some (.inl c') => mm_ex P n c'
        | some (.inr r) => some r) = _
      rw [k]
      rfl
theorem la_pV (as : List Value) : mm_la (as.map pV) = pL (mm_la as) := by
  induction as with
  | nil => rfl
  | cons v as ih =>
    show (if (pV v).category = 2 then some (pV v) :: none :: mm_la (as.map pV) else some (pV v) :: mm_la (as.map pV)) = pL (if v.category = 2 then some v :: none :: mm_la as else some v :: mm_la as)
    rw [pV_cat, ih]
    split <;> rfl
theorem mm_do_q {dd : Nat} {T : mm_S} {ts : List (Nat × mm_I)} {n : Nat} (hm : ∀ q ∈ ts, mm_mn q.2) (h : ∀ q ∈ ts, mm_Q1 dd T q.2) : mm_QF dd T (mm_do (mm_pr ts) n) := by
  intro as S r hr g1 g2
  unfold mm_do at hr ⊢
  rw [la_pV]
  cases hb : Nat.ble (mm_la as).length n with
  | false => rw [hb] at hr; cases hr
  | true =>
    rw [hb] at hr
    rw [show (pL (mm_la as)).length = (mm_la as).length from List.length_map _, hb, cond_true]
    obtain ⟨k, hk⟩ := mm_run_iff.mp hr
    have := mm_q_run (mm_pr_mn hm) (mm_pr_q h) k (0, mm_en n as, [], S) r hk g1 g2
    have e : mm_en n (as.map pV) = pL (mm_en n as) := by
      unfold mm_en
      rw [la_pV]
      show pL (mm_la as) ++ List.replicate (n - (pL (mm_la as)).length) none = List.map (Option.map pV) (mm_la as ++ List.replicate (n - (mm_la as).length) none)
      rw [List.map_append, List.map_replicate, show (pL (mm_la as)).length = (mm_la as).length from List.length_map _]
      rfl
    rw [e]
    exact mm_run_iff.mpr ⟨k, this⟩
section ROWS
variable {dd : Nat} {T : mm_S}
theorem q_k (n : Nat) {v : Value} (hv : pV v = v) : mm_Q1 dd T (mm_k n v) := by
  intro L st S z h _ _
  unfold mm_k at h ⊢
  cases h
  show _ = some (Sum.inl (n, pL L, pV v :: st.map pV, pS dd T S))
  rw [hv]
theorem q_ldI (n i : Nat) : mm_Q1 dd T (mm_ldI n i) := by
  intro L st S z h _ _
  unfold mm_ldI at h ⊢
  rw [List.getElem?_map]
  split at h
  · next v hv => cases h; rw [hv]; rfl
  · cases h
theorem q_ldJ (n i : Nat) : mm_Q1 dd T (mm_ldJ n i) := by
  intro L st S z h _ _
  unfold mm_ldJ at h ⊢
  rw [List.getElem?_map]
  split at h
  · next v hv => cases h; rw [hv]; rfl
  · cases h
theorem q_ldR (n i : Nat) : mm_Q1 dd T (mm_ldR n i) := by
  intro L st S z h _ _
  unfold mm_ldR at h ⊢
  rw [List.getElem?_map]
  split at h
  · next v hv => cases h; rw [hv]; rfl
  · cases h
theorem cl_pV (o : Option Value) : mm_cl (o.map pV) = (mm_cl o).map pV := by
  cases o with
  | none => rfl
  | some v => cases v <;> rfl
theorem s0_pL (L : mm_L) (i : Nat) : mm_s0 (pL L) i = pL (mm_s0 L i) := by
  cases i with
  | zero => rfl
  | succ i =>
    show (L.map (Option.map pV)).modify i mm_cl = (L.modify i mm_cl).map (Option.map pV)
    apply List.ext_getElem?
    intro j
    rw [List.getElem?_modify, List.getElem?_map, List.getElem?_map, List.getElem?_modify]
    cases L[j]? with
    | none => rfl
    | some o =>
      show some (if i = j then mm_cl (o.map pV) else o.map pV) = some ((if i = j then mm_cl o else o).map pV)
      split
      · rw [cl_pV]
      · rfl
theorem s1_pL (L : mm_L) (i : Nat) (v : Value) : mm_s1 (pL L) i (pV v) = pL (mm_s1 L i v) := by
  unfold mm_s1
  rw [s0_pL]
  show (List.map (Option.map pV) (mm_s0 L i)).set i (some (pV v)) = List.map (Option.map pV) ((mm_s0 L i).set i (some v))
  rw [List.map_set]
  rfl
theorem s2_pL (L : mm_L) (i : Nat) (v : Value) : mm_s2 (pL L) i (pV v) = pL (mm_s2 L i v) := by
  unfold mm_s2
  rw [s0_pL]
  show ((List.map (Option.map pV) (mm_s0 L i)).set i (some (pV v))).set (i + 1) none = List.map (Option.map pV) (((mm_s0 L i).set i (some v)).set (i + 1) none)
  rw [List.map_set, List.map_set]
  rfl
theorem q_stI (n i : Nat) : mm_Q1 dd T (mm_stI n i) := by
  intro L st S z h _ _
  unfold mm_stI at h ⊢
  split at h
  · next v r => cases h; exact congrArg (fun q => some (Sum.inl (n, q, r.map pV, pS dd T S))) (s1_pL L i (.int v))
  · cases h
theorem q_stJ (n i : Nat) : mm_Q1 dd T (mm_stJ n i) := by
  intro L st S z h _ _
  unfold mm_stJ at h ⊢
  split at h
  · next v r => cases h; exact congrArg (fun q => some (Sum.inl (n, q, r.map pV, pS dd T S))) (s2_pL L i (.long v))
  · cases h
theorem q_stR (n i : Nat) : mm_Q1 dd T (mm_stR n i) := by
  intro L st S z h _ _
  unfold mm_stR at h ⊢
  split at h
  · next v r => cases h; exact congrArg (fun q => some (Sum.inl (n, q, r.map pV, pS dd T S))) (s1_pL L i (.ref v))
  · cases h
theorem q_inc (n i : Nat) (d : Int32) : mm_Q1 dd T (mm_inc n i d) := by
  intro L st S z h _ _
  unfold mm_inc at h ⊢
  rw [List.getElem?_map]
  split at h
  · next v hv =>
    cases h
    rw [hv]
    exact congrArg (fun q => some (Sum.inl (n, q, st.map pV, pS dd T S))) (s1_pL L i (.int (v + d)))
  · cases h
theorem q_dup (n : Nat) : mm_Q1 dd T (mm_dup n) := by
  intro L st S z h _ _
  unfold mm_dup at h ⊢
  split at h
  · next v r =>
    show (bif Nat.beq (pV v).category 1 then some (Sum.inl (n, pL L, pV v :: pV v :: r.map pV, pS dd T S)) else none) = _
    rw [pV_cat]
    cases hb : Nat.beq v.category 1 with
    | false => rw [hb] at h; cases h
    | true => rw [hb] at h; cases h; rfl
  · cases h
theorem q_dup2 (n : Nat) : mm_Q1 dd T (mm_dup2 n) := by
  intro L st S z h _ _
  unfold mm_dup2 at h ⊢
  split at h
  · next v w r =>
    show (bif Nat.beq (pV v).category 1 && Nat.beq (pV w).category 1 then some (Sum.inl (n, pL L, pV v :: pV w :: pV v :: pV w :: r.map pV, pS dd T S)) else none) = _
    rw [pV_cat, pV_cat]
    cases hb : (Nat.beq v.category 1 && Nat.beq w.category 1) with
    | false => rw [hb] at h; cases h
    | true => rw [hb] at h; cases h; rfl
  · cases h
theorem q_pop (n : Nat) : mm_Q1 dd T (mm_pop n) := by
  intro L st S z h _ _
  unfold mm_pop at h ⊢
  split at h
  · next v r =>
    show (bif Nat.beq (pV v).category 1 then some (Sum.inl (n, pL L, r.map pV, pS dd T S)) else none) = _
    rw [pV_cat]
    cases hb : Nat.beq v.category 1 with
    | false => rw [hb] at h; cases h
    | true => rw [hb] at h; cases h; rfl
  · cases h
theorem q_i2 (n : Nat) (g : Int32 → Int32 → Int32) : mm_Q1 dd T (mm_i2 n g) := by
  intro L st S z h _ _
  unfold mm_i2 at h ⊢
  split at h
  · cases h; rfl
  · cases h
theorem q_i1 (n : Nat) (g : Int32 → Int32) : mm_Q1 dd T (mm_i1 n g) := by
  intro L st S z h _ _
  unfold mm_i1 at h ⊢
  split at h
  · cases h; rfl
  · cases h
theorem q_l2 (n : Nat) (g : Int64 → Int64 → Int64) : mm_Q1 dd T (mm_l2 n g) := by
  intro L st S z h _ _
  unfold mm_l2 at h ⊢
  split at h
  · cases h; rfl
  · cases h
theorem q_l1 (n : Nat) (g : Int64 → Int64) : mm_Q1 dd T (mm_l1 n g) := by
  intro L st S z h _ _
  unfold mm_l1 at h ⊢
  split at h
  · cases h; rfl
  · cases h
theorem q_ls (n : Nat) (g : Int64 → Int32 → Int64) : mm_Q1 dd T (mm_ls n g) := by
  intro L st S z h _ _
  unfold mm_ls at h ⊢
  split at h
  · cases h; rfl
  · cases h
theorem q_il (n : Nat) (g : Int32 → Int64) : mm_Q1 dd T (mm_il n g) := by
  intro L st S z h _ _
  unfold mm_il at h ⊢
  split at h
  · cases h; rfl
  · cases h
theorem q_li (n : Nat) (g : Int64 → Int32) : mm_Q1 dd T (mm_li n g) := by
  intro L st S z h _ _
  unfold mm_li at h ⊢
  split at h
  · cases h; rfl
  · cases h
theorem q_cmp (n : Nat) : mm_Q1 dd T (mm_cmp n) := by
  intro L st S z h _ _
  unfold mm_cmp at h ⊢
  split at h
  · cases h; rfl
  · cases h
theorem q_tsw (lo hi : Int) (d : Nat) (ts : List Nat) : mm_Q1 dd T (mm_tsw lo hi d ts) := by
  intro L st S z h _ _
  unfold mm_tsw at h ⊢
  split at h
  · cases h; rfl
  · cases h
theorem q_lsw (d : Nat) (ts : List (Int × Nat)) : mm_Q1 dd T (mm_lsw d ts) := by
  intro L st S z h _ _
  unfold mm_lsw at h ⊢
  split at h
  · cases h; rfl
  · cases h
theorem q_eq1 (t n : Nat) : mm_Q1 dd T (mm_eq1 t n) := by
  intro L st S z h _ _
  unfold mm_eq1 at h ⊢
  split at h
  · cases h; rfl
  · cases h
theorem q_eq2 (t n : Nat) : mm_Q1 dd T (mm_eq2 t n) := by
  intro L st S z h _ _
  unfold mm_eq2 at h ⊢
  split at h
  · cases h; rfl
  · cases h
theorem q_ne1 (t n : Nat) : mm_Q1 dd T (mm_ne1 t n) := by
  intro L st S z h _ _
  unfold mm_ne1 at h ⊢
  split at h
  · cases h; rfl
  · cases h
theorem q_ne2 (t n : Nat) : mm_Q1 dd T (mm_ne2 t n) := by
  intro L st S z h _ _
  unfold mm_ne2 at h ⊢
  split at h
  · cases h; rfl
  · cases h
theorem q_lt1 (t n : Nat) : mm_Q1 dd T (mm_lt1 t n) := by
  intro L st S z h _ _
  unfold mm_lt1 at h ⊢
  split at h
  · cases h; rfl
  · cases h
theorem q_lt2 (t n : Nat) : mm_Q1 dd T (mm_lt2 t n) := by
  intro L st S z h _ _
  unfold mm_lt2 at h ⊢
  split at h
  · cases h; rfl
  · cases h
theorem q_ge1 (t n : Nat) : mm_Q1 dd T (mm_ge1 t n) := by
  intro L st S z h _ _
  unfold mm_ge1 at h ⊢
  split at h
  · cases h; rfl
  · cases h
theorem q_ge2 (t n : Nat) : mm_Q1 dd T (mm_ge2 t n) := by
  intro L st S z h _ _
  unfold mm_ge2 at h ⊢
  split at h
  · cases h; rfl
  · cases h
theorem q_gt1 (t n : Nat) : mm_Q1 dd T (mm_gt1 t n) := by
  intro L st S z h _ _
  unfold mm_gt1 at h ⊢
  split at h
  · cases h; rfl
  · cases h
theorem q_gt2 (t n : Nat) : mm_Q1 dd T (mm_gt2 t n) := by
  intro L st S z h _ _
  unfold mm_gt2 at h ⊢
  split at h
  · cases h; rfl
  · cases h
theorem q_le1 (t n : Nat) : mm_Q1 dd T (mm_le1 t n) := by
  intro L st S z h _ _
  unfold mm_le1 at h ⊢
  split at h
  · cases h; rfl
  · cases h
theorem q_le2 (t n : Nat) : mm_Q1 dd T (mm_le2 t n) := by
  intro L st S z h _ _
  unfold mm_le2 at h ⊢
  split at h
  · cases h; rfl
  · cases h
theorem q_rtI : mm_Q1 dd T (mm_rtI) := by
  intro L st S z h _ _
  unfold mm_rtI at h ⊢
  split at h
  · cases h; rfl
  · cases h
theorem q_rtJ : mm_Q1 dd T (mm_rtJ) := by
  intro L st S z h _ _
  unfold mm_rtJ at h ⊢
  split at h
  · cases h; rfl
  · cases h
theorem q_rtV : mm_Q1 dd T (mm_rtV) := by
  intro L st S z h _ _
  unfold mm_rtV at h ⊢
  split at h
  · cases h; rfl
  · cases h
theorem q_i3 (n : Nat) (g : Int32 → Int32 → Int32) : mm_Q1 dd T (mm_i3 n g) := by
  intro L st S z h _ _
  unfold mm_i3 at h ⊢
  split at h
  · next y x r =>
    by_cases hy : y = 0
    · rw [if_pos hy] at h; cases h
    · rw [if_neg hy] at h; cases h
      exact if_neg hy
  · cases h
theorem q_l3 (n : Nat) (g : Int64 → Int64 → Int64) : mm_Q1 dd T (mm_l3 n g) := by
  intro L st S z h _ _
  unfold mm_l3 at h ⊢
  split at h
  · next y x r =>
    by_cases hy : y = 0
    · rw [if_pos hy] at h; cases h
    · rw [if_neg hy] at h; cases h
      exact if_neg hy
  · cases h
theorem q_go (t : Nat) : mm_Q1 dd T (mm_go t) := by
  intro L st S z h _ _
  unfold mm_go at h ⊢
  cases h; rfl
theorem q_rtZ : mm_Q1 dd T mm_rtZ := by
  intro L st S z h _ _
  unfold mm_rtZ at h ⊢
  split at h
  · next v =>
    by_cases hv : v = 0 ∨ v = 1
    · rw [if_pos hv] at h; cases h
      exact if_pos hv
    · rw [if_neg hv] at h; cases h
  · cases h
theorem q_rtC : mm_Q1 dd T mm_rtC := by
  intro L st S z h _ _
  unfold mm_rtC at h ⊢
  split at h
  · next v =>
    by_cases hv : 0 ≤ v.toInt ∧ v.toInt < 65536
    · rw [if_pos hv] at h; cases h
      exact if_pos hv
    · rw [if_neg hv] at h; cases h
  · cases h
theorem q_gfI (n ci p : Nat) : mm_Q1 dd T (mm_gfI n ci p) := by
  intro L st S z h g _
  unfold mm_gfI at h ⊢
  split at h
  · next k r =>
    cases hb : mm_isO S k ci with
    | false => rw [hb] at h; cases h
    | true =>
      rw [hb] at h
      cases h
      obtain ⟨h1, h2⟩ := isO_pi (T := T) g hb
      show (bif mm_isO (pS dd T S) (pi k) ci then some (Sum.inl (n, pL L, .int ((pS dd T S).2.2.2.1 (pi k) p) :: r.map pV, pS dd T S)) else none) = _
      rw [h2, cond_true]
      exact congrArg (fun q => some (Sum.inl (n, pL L, .int q :: r.map pV, pS dd T S))) (pT_at g h1)
  · cases h
theorem q_gfJ (n ci p : Nat) : mm_Q1 dd T (mm_gfJ n ci p) := by
  intro L st S z h g _
  unfold mm_gfJ at h ⊢
  split at h
  · next k r =>
    cases hb : mm_isO S k ci with
    | false => rw [hb] at h; cases h
    | true =>
      rw [hb] at h
      cases h
      obtain ⟨h1, h2⟩ := isO_pi (T := T) g hb
      show (bif mm_isO (pS dd T S) (pi k) ci then some (Sum.inl (n, pL L, .long ((pS dd T S).2.2.2.2.1 (pi k) p) :: r.map pV, pS dd T S)) else none) = _
      rw [h2, cond_true]
      exact congrArg (fun q => some (Sum.inl (n, pL L, .long q :: r.map pV, pS dd T S))) (pT_at g h1)
  · cases h
theorem q_gfR (n ci p : Nat) : mm_Q1 dd T (mm_gfR n ci p) := by
  intro L st S z h g _
  unfold mm_gfR at h ⊢
  split at h
  · next k r =>
    cases hb : mm_isO S k ci with
    | false => rw [hb] at h; cases h
    | true =>
      rw [hb] at h
      cases h
      obtain ⟨h1, h2⟩ := isO_pi (T := T) g hb
      show (bif mm_isO (pS dd T S) (pi k) ci then some (Sum.inl (n, pL L, (pS dd T S).2.2.1 (pi k) p :: r.map pV, pS dd T S)) else none) = _
      rw [h2, cond_true]
      exact congrArg (fun q => some (Sum.inl (n, pL L, q :: r.map pV, pS dd T S))) (pTR_at g h1)
  · cases h
theorem q_pfI (n ci p : Nat) : mm_Q1 dd T (mm_pfI n ci p) := by
  intro L st S z h g _
  unfold mm_pfI at h ⊢
  split at h
  · next v k r =>
    cases hb : mm_isO S k ci with
    | false => rw [hb] at h; cases h
    | true =>
      rw [hb, cond_true] at h
      obtain ⟨h1, h2⟩ := isO_pi (T := T) g hb
      show (bif mm_isO (pS dd T S) (pi k) ci then some (Sum.inl (n, pL L, r.map pV, ((pS dd T S).1, (pS dd T S).2.1, (pS dd T S).2.2.1, mm_up (pS dd T S).2.2.2.1 (pi k) p v, (pS dd T S).2.2.2.2.1, (pS dd T S).2.2.2.2.2.1, (pS dd T S).2.2.2.2.2.2))) else none) = _
      rw [h2, cond_true]
      cases h
      exact congrArg (fun q => some (Sum.inl (n, pL L, r.map pV, ((pS dd T S).1, (pS dd T S).2.1, (pS dd T S).2.2.1, q, (pS dd T S).2.2.2.2.1, (pS dd T S).2.2.2.2.2.1, (pS dd T S).2.2.2.2.2.2)))) (pT_up g h1).symm
  · cases h
theorem q_pfZ (n ci p : Nat) : mm_Q1 dd T (mm_pfZ n ci p) := by
  intro L st S z h g _
  unfold mm_pfZ at h ⊢
  split at h
  · next v k r =>
    cases hb : mm_isO S k ci with
    | false => rw [hb] at h; cases h
    | true =>
      rw [hb, cond_true] at h
      obtain ⟨h1, h2⟩ := isO_pi (T := T) g hb
      show (bif mm_isO (pS dd T S) (pi k) ci then (if v = 0 ∨ v = 1 then some (Sum.inl (n, pL L, r.map pV, ((pS dd T S).1, (pS dd T S).2.1, (pS dd T S).2.2.1, mm_up (pS dd T S).2.2.2.1 (pi k) p v, (pS dd T S).2.2.2.2.1, (pS dd T S).2.2.2.2.2.1, (pS dd T S).2.2.2.2.2.2))) else none) else none) = _
      rw [h2, cond_true]
      by_cases hv : v = 0 ∨ v = 1
      · rw [if_pos hv] at h ⊢
        cases h
        exact congrArg (fun q => some (Sum.inl (n, pL L, r.map pV, ((pS dd T S).1, (pS dd T S).2.1, (pS dd T S).2.2.1, q, (pS dd T S).2.2.2.2.1, (pS dd T S).2.2.2.2.2.1, (pS dd T S).2.2.2.2.2.2)))) (pT_up g h1).symm
      · rw [if_neg hv] at h; cases h
  · cases h
theorem q_pfJ (n ci p : Nat) : mm_Q1 dd T (mm_pfJ n ci p) := by
  intro L st S z h g _
  unfold mm_pfJ at h ⊢
  split at h
  · next v k r =>
    cases hb : mm_isO S k ci with
    | false => rw [hb] at h; cases h
    | true =>
      rw [hb, cond_true] at h
      obtain ⟨h1, h2⟩ := isO_pi (T := T) g hb
      show (bif mm_isO (pS dd T S) (pi k) ci then some (Sum.inl (n, pL L, r.map pV, ((pS dd T S).1, (pS dd T S).2.1, (pS dd T S).2.2.1, (pS dd T S).2.2.2.1, mm_up (pS dd T S).2.2.2.2.1 (pi k) p v, (pS dd T S).2.2.2.2.2.1, (pS dd T S).2.2.2.2.2.2))) else none) = _
      rw [h2, cond_true]
      cases h
      exact congrArg (fun q => some (Sum.inl (n, pL L, r.map pV, ((pS dd T S).1, (pS dd T S).2.1, (pS dd T S).2.2.1, (pS dd T S).2.2.2.1, q, (pS dd T S).2.2.2.2.2.1, (pS dd T S).2.2.2.2.2.2)))) (pT_up g h1).symm
  · cases h
theorem q_pfR (n ci p : Nat) : mm_Q1 dd T (mm_pfR n ci p) := by
  intro L st S z h g _
  unfold mm_pfR at h ⊢
  split at h
  · next v k r =>
    cases hb : mm_isO S k ci with
    | false => rw [hb] at h; cases h
    | true =>
      rw [hb, cond_true] at h
      obtain ⟨h1, h2⟩ := isO_pi (T := T) g hb
      show (bif mm_isO (pS dd T S) (pi k) ci then some (Sum.inl (n, pL L, r.map pV, ((pS dd T S).1, (pS dd T S).2.1, mm_up (pS dd T S).2.2.1 (pi k) p (.ref (pi v)), (pS dd T S).2.2.2.1, (pS dd T S).2.2.2.2.1, (pS dd T S).2.2.2.2.2.1, (pS dd T S).2.2.2.2.2.2))) else none) = _
      rw [h2, cond_true]
      cases h
      exact congrArg (fun q => some (Sum.inl (n, pL L, r.map pV, ((pS dd T S).1, (pS dd T S).2.1, q, (pS dd T S).2.2.2.1, (pS dd T S).2.2.2.2.1, (pS dd T S).2.2.2.2.2.1, (pS dd T S).2.2.2.2.2.2)))) (show mm_up (pS dd T S).2.2.1 (pi k) p (.ref (pi v)) = pTR dd T.2.2.1 (mm_up S.2.2.1 k p (.ref v)) from (pTR_up (v := Value.ref v) g h1).symm)
  · cases h
theorem q_ald (n t : Nat) : mm_Q1 dd T (mm_ald n t) := by
  intro L st S z h g _
  unfold mm_ald at h ⊢
  split at h
  · next i k r =>
    cases hb : mm_isA S k t with
    | false => rw [hb] at h; cases h
    | true =>
      rw [hb, cond_true] at h
      obtain ⟨h1, h2⟩ := isA_pi (T := T) g hb
      show (bif mm_isA (pS dd T S) (pi k) t then (if 0 ≤ i.toInt ∧ i.toInt < mm_ln (pi k) then some (Sum.inl (n, pL L, .int ((pS dd T S).2.2.2.2.2.1 (pi k) i.toInt.toNat) :: r.map pV, pS dd T S)) else none) else none) = _
      rw [h2, cond_true, ln_pi g h1]
      by_cases hi : 0 ≤ i.toInt ∧ i.toInt < mm_ln k
      · rw [if_pos hi] at h ⊢
        cases h
        exact congrArg (fun q => some (Sum.inl (n, pL L, .int q :: r.map pV, pS dd T S))) (pT_at g h1)
      · rw [if_neg hi] at h; cases h
  · cases h
theorem q_aldJ (n : Nat) : mm_Q1 dd T (mm_aldJ n) := by
  intro L st S z h g _
  unfold mm_aldJ at h ⊢
  split at h
  · next i k r =>
    cases hb : mm_isA S k 1 with
    | false => rw [hb] at h; cases h
    | true =>
      rw [hb, cond_true] at h
      obtain ⟨h1, h2⟩ := isA_pi (T := T) g hb
      show (bif mm_isA (pS dd T S) (pi k) 1 then (if 0 ≤ i.toInt ∧ i.toInt < mm_ln (pi k) then some (Sum.inl (n, pL L, .long ((pS dd T S).2.2.2.2.2.2 (pi k) i.toInt.toNat) :: r.map pV, pS dd T S)) else none) else none) = _
      rw [h2, cond_true, ln_pi g h1]
      by_cases hi : 0 ≤ i.toInt ∧ i.toInt < mm_ln k
      · rw [if_pos hi] at h ⊢
        cases h
        exact congrArg (fun q => some (Sum.inl (n, pL L, .long q :: r.map pV, pS dd T S))) (pT_at g h1)
      · rw [if_neg hi] at h; cases h
  · cases h
theorem q_ast (n t : Nat) (f : Int32 → Int32) : mm_Q1 dd T (mm_ast n t f) := by
  intro L st S z h g _
  unfold mm_ast at h ⊢
  split at h
  · next v i k r =>
    cases hb : mm_isA S k t with
    | false => rw [hb] at h; cases h
    | true =>
      rw [hb, cond_true] at h
      obtain ⟨h1, h2⟩ := isA_pi (T := T) g hb
      show (bif mm_isA (pS dd T S) (pi k) t then (if 0 ≤ i.toInt ∧ i.toInt < mm_ln (pi k) then some (Sum.inl (n, pL L, r.map pV, ((pS dd T S).1, (pS dd T S).2.1, (pS dd T S).2.2.1, (pS dd T S).2.2.2.1, (pS dd T S).2.2.2.2.1, mm_up (pS dd T S).2.2.2.2.2.1 (pi k) i.toInt.toNat (f v), (pS dd T S).2.2.2.2.2.2))) else none) else none) = _
      rw [h2, cond_true, ln_pi g h1]
      by_cases hi : 0 ≤ i.toInt ∧ i.toInt < mm_ln k
      · rw [if_pos hi] at h ⊢
        cases h
        exact congrArg (fun q => some (Sum.inl (n, pL L, r.map pV, ((pS dd T S).1, (pS dd T S).2.1, (pS dd T S).2.2.1, (pS dd T S).2.2.2.1, (pS dd T S).2.2.2.2.1, q, (pS dd T S).2.2.2.2.2.2)))) (pT_up g h1).symm
      · rw [if_neg hi] at h; cases h
  · cases h
theorem q_astJ (n : Nat) : mm_Q1 dd T (mm_astJ n) := by
  intro L st S z h g _
  unfold mm_astJ at h ⊢
  split at h
  · next v i k r =>
    cases hb : mm_isA S k 1 with
    | false => rw [hb] at h; cases h
    | true =>
      rw [hb, cond_true] at h
      obtain ⟨h1, h2⟩ := isA_pi (T := T) g hb
      show (bif mm_isA (pS dd T S) (pi k) 1 then (if 0 ≤ i.toInt ∧ i.toInt < mm_ln (pi k) then some (Sum.inl (n, pL L, r.map pV, ((pS dd T S).1, (pS dd T S).2.1, (pS dd T S).2.2.1, (pS dd T S).2.2.2.1, (pS dd T S).2.2.2.2.1, (pS dd T S).2.2.2.2.2.1, mm_up (pS dd T S).2.2.2.2.2.2 (pi k) i.toInt.toNat v))) else none) else none) = _
      rw [h2, cond_true, ln_pi g h1]
      by_cases hi : 0 ≤ i.toInt ∧ i.toInt < mm_ln k
      · rw [if_pos hi] at h ⊢
        cases h
        exact congrArg (fun q => some (Sum.inl (n, pL L, r.map pV, ((pS dd T S).1, (pS dd T S).2.1, (pS dd T S).2.2.1, (pS dd T S).2.2.2.1, (pS dd T S).2.2.2.2.1, (pS dd T S).2.2.2.2.2.1, q)))) (pT_up g h1).symm
      · rw [if_neg hi] at h; cases h
  · cases h
theorem q_aldS (n k : Nat) (hk : k < 3) : mm_Q1 dd T (mm_aldS n k) := by
  intro L st S z h _ _
  unfold mm_aldS at h ⊢
  split at h
  · next i q r =>
    cases hb : Nat.beq q (1000 + k) with
    | false => rw [hb] at h; cases h
    | true =>
      rw [hb, cond_true] at h
      have e := Nat.eq_of_beq_eq_true hb
      show (bif Nat.beq (pi q) (1000 + k) then _ else none) = _
      rw [pi_out (by omega), hb, cond_true]
      split at h
      · next z2 hz =>
        by_cases hi : 0 ≤ i.toInt ∧ i.toInt < z2.2.2.1
        · rw [if_pos hi] at h ⊢
          cases h; rfl
        · rw [if_neg hi] at h; cases h
      · cases h
  · cases h
theorem q_aln (n t : Nat) : mm_Q1 dd T (mm_aln n t) := by
  intro L st S z h g _
  unfold mm_aln at h ⊢
  split at h
  · next k r =>
    cases hb : mm_isA S k t with
    | false => rw [hb] at h; cases h
    | true =>
      rw [hb, cond_true] at h
      cases h
      obtain ⟨h1, h2⟩ := isA_pi (T := T) g hb
      show (bif mm_isA (pS dd T S) (pi k) t then some (Sum.inl (n, pL L, .int (Int32.ofNat (mm_ln (pi k))) :: r.map pV, pS dd T S)) else none) = _
      rw [h2, cond_true, ln_pi g h1]
      rfl
  · cases h
theorem Gd.nw {n : Nat} (g : Gd dd n) (g2 : Gd dd (n + 1)) : dd = 39 ∧ n < 39 := by
  rcases g with ⟨a, b⟩ | ⟨a, b⟩
  · rcases g2 with ⟨c, d⟩ | ⟨c, d⟩ <;> omega
  · rcases g2 with ⟨c, d⟩ | ⟨c, d⟩ <;> omega
theorem lay_nw {n : Nat} (h : n < 39) : mm_lay (n + 39) = mm_lay n := by
  have := pi_lay (k := n) (by omega)
  rw [pi_lo h] at this
  exact this
theorem q_new (n ci : Nat) : mm_Q1 dd T (mm_new n ci) := by
  intro L st S z h g g2
  unfold mm_new at h ⊢
  split at h
  · next c hc =>
    cases hb : Nat.beq c ci with
    | false => rw [hb] at h; cases h
    | true =>
      rw [hb, cond_true] at h
      cases h
      obtain ⟨hd, hn⟩ := g.nw g2
      have e1 : mm_lay (pS dd T S).1 = .inl c := by
        show mm_lay (S.1 + dd) = _
        rw [hd, lay_nw hn, hc]
      rw [e1]
      dsimp only
      rw [hb, cond_true]
      show some (Sum.inl (n, pL L, .ref (S.1 + dd) :: st.map pV, (S.1 + dd + 1, S.2.1, _, _, _, _, _))) = some (Sum.inl (n, pL L, .ref (pi S.1) :: st.map pV, (S.1 + 1 + dd, S.2.1, pTR dd _ _, pT dd _ _, pT dd _ _, _, _)))
      rw [pTR_z hd hn, pT_z hd hn, pT_z hd hn, pi_lo hn, hd, show S.1 + 39 + 1 = S.1 + 1 + 39 by omega]
      rfl
  · cases h
theorem q_nwa (n t : Nat) : mm_Q1 dd T (mm_nwa n t) := by
  intro L st S z h g g2
  unfold mm_nwa at h ⊢
  split at h
  · next v r =>
    split at h
    · next q hq =>
      by_cases hc : q.1 = t ∧ v.toInt = q.2
      · rw [if_pos hc] at h
        cases h
        obtain ⟨hd, hn⟩ := g.nw g2
        show (match mm_lay (S.1 + dd) with | .inr q => _ | .inl _ => none) = _
        rw [show mm_lay (S.1 + dd) = .inr q by rw [hd, lay_nw hn, hq]]
        dsimp only
        rw [if_pos hc]
        show some (Sum.inl (n, pL L, .ref (S.1 + dd) :: r.map pV, (S.1 + dd + 1, S.2.1, _, _, _, _, _))) = some (Sum.inl (n, pL L, .ref (pi S.1) :: r.map pV, (S.1 + 1 + dd, S.2.1, _, _, _, pT dd _ _, pT dd _ _)))
        rw [pT_z hd hn, pT_z hd hn, pi_lo hn, hd, show S.1 + 39 + 1 = S.1 + 1 + 39 by omega]
        rfl
      · rw [if_neg hc] at h; cases h
    · cases h
  · cases h
theorem cat_pV (st : List Value) : mm_cat (st.map pV) = mm_cat st := by
  unfold mm_cat
  rw [List.map_map]
  congr 1
  apply List.map_congr_left
  intro v _
  exact pV_cat v
theorem q_obj (n : Nat) : mm_Q1 dd T (mm_obj n) := by
  intro L st S z h g _
  unfold mm_obj at h ⊢
  split at h
  · next k r =>
    cases hb : (Nat.blt k S.1 && Nat.ble (mm_cat r) 8) with
    | false => rw [hb] at h; cases h
    | true =>
      rw [hb, cond_true] at h
      cases h
      rw [Bool.and_eq_true] at hb
      have hk := Nat.le_of_ble_eq_true hb.1
      show (bif Nat.blt (pi k) (S.1 + dd) && Nat.ble (mm_cat (r.map pV)) 8 then some (Sum.inl (n, pL L, r.map pV, pS dd T S)) else none) = _
      rw [cat_pV, hb.2, show Nat.blt (pi k) (S.1 + dd) = true from Nat.ble_eq_true_of_le (g.lt hk)]
      rfl
  · cases h
theorem q_thr (E : Nat) : mm_Q1 dd T (mm_thr E) := by
  intro L st S z h _ _
  unfold mm_thr at h ⊢
  rw [cat_pV]
  cases hb : Nat.ble (mm_cat st) 8 with
  | false => rw [hb] at h; cases h
  | true =>
    rw [hb] at h
    cases h
    rfl
theorem pV_list (v : Option Value) : (v.map pV).toList = v.toList.map pV := by cases v <;> rfl
theorem q_clV (n ci na : Nat) {f : mm_F} (hf : mm_QF dd T f) : mm_Q1 dd T (mm_clV n ci na f) := by
  intro L st S z h g g2
  unfold mm_clV at h ⊢
  rw [← List.map_take, ← List.map_reverse, ← List.map_drop, List.length_map, cat_pV]
  split at h
  · next k as hs =>
    rw [hs]
    cases hb : (mm_isO S k ci && Nat.ble (na + 1) st.length && Nat.ble (mm_cat (st.drop (na + 1))) 8) with
    | false => rw [hb] at h; cases h
    | true =>
      rw [hb, cond_true] at h
      rw [Bool.and_eq_true, Bool.and_eq_true] at hb
      obtain ⟨h1, h2⟩ := isO_pi (T := T) g hb.1.1
      show (bif mm_isO (pS dd T S) (pi k) ci && Nat.ble (na + 1) st.length && Nat.ble (mm_cat (st.drop (na + 1))) 8 then (match f ((Value.ref k :: as).map pV) (pS dd T S) with | some (.inl v, S') => _ | some (.inr E, S') => _ | none => none) else none) = _
      rw [h2, hb.1.2, hb.2]
      split at h
      · next v S' hr =>
        cases h
        rw [hf _ _ _ hr g g2]
        show some (Sum.inl (n, pL L, (v.map pV).toList ++ (st.drop (na + 1)).map pV, pS dd T S')) = some (Sum.inl (n, pL L, (v.toList ++ st.drop (na + 1)).map pV, pS dd T S'))
        rw [List.map_append, pV_list]
      · next E S' hr =>
        cases h
        rw [hf _ _ _ hr g g2]
        rfl
      · cases h
  · cases h
theorem q_clS (n na : Nat) {f : mm_F} (hf : mm_QF dd T f) : mm_Q1 dd T (mm_clS n na f) := by
  intro L st S z h g g2
  unfold mm_clS at h ⊢
  rw [← List.map_take, ← List.map_reverse, ← List.map_drop, List.length_map, cat_pV]
  cases hb : (Nat.ble na st.length && Nat.ble (mm_cat (st.drop na)) 8) with
  | false => rw [hb] at h; cases h
  | true =>
    rw [hb, cond_true] at h
    rw [cond_true]
    split at h
    · next v S' hr =>
      cases h
      rw [hf _ _ _ hr g g2]
      show some (Sum.inl (n, pL L, (v.map pV).toList ++ (st.drop na).map pV, pS dd T S')) = some (Sum.inl (n, pL L, (v.toList ++ st.drop na).map pV, pS dd T S'))
      rw [List.map_append, pV_list]
    · next E S' hr =>
      cases h
      rw [hf _ _ _ hr g g2]
      rfl
    · cases h
theorem q_hdl {L : mm_L} {S' : mm_S} {o : Option (Nat × Nat × Nat)} {z : mm_C ⊕ mm_R} (h : mm_hdl L S' o = some z) : zS z = S' ∧ mm_hdl (pL L) (pS dd T S') o = some (pO dd T z) := by
  cases o with
  | none => cases h
  | some q =>
    cases h
    refine ⟨rfl, ?_⟩
    show some (Sum.inl (q.2.1, (mm_s0 (pL L) q.2.2).set q.2.2 none, [], pS dd T S')) = some (Sum.inl (q.2.1, pL ((mm_s0 L q.2.2).set q.2.2 none), [], pS dd T S'))
    rw [s0_pL]
    show some (Sum.inl (q.2.1, (List.map (Option.map pV) (mm_s0 L q.2.2)).set q.2.2 none, [], pS dd T S')) = some (Sum.inl (q.2.1, List.map (Option.map pV) ((mm_s0 L q.2.2).set q.2.2 none), [], pS dd T S'))
    rw [List.map_set]
    rfl
theorem q_clC (n ci na : Nat) (hs : List (Nat × Nat × Nat)) {f : mm_F} (hf : mm_QF dd T f) : mm_Q1 dd T (mm_clC n ci na f hs) := by
  intro L st S z h g g2
  unfold mm_clC at h ⊢
  rw [← List.map_take, ← List.map_reverse, ← List.map_drop, List.length_map, cat_pV]
  split at h
  · next k as hs2 =>
    rw [hs2]
    cases hb : (mm_isO S k ci && Nat.ble (na + 1) st.length && Nat.ble (mm_cat (st.drop (na + 1))) 8) with
    | false => rw [hb] at h; cases h
    | true =>
      rw [hb, cond_true] at h
      rw [Bool.and_eq_true, Bool.and_eq_true] at hb
      obtain ⟨h1, h2⟩ := isO_pi (T := T) g hb.1.1
      show (bif mm_isO (pS dd T S) (pi k) ci && Nat.ble (na + 1) st.length && Nat.ble (mm_cat (st.drop (na + 1))) 8 then (match f ((Value.ref k :: as).map pV) (pS dd T S) with | some (.inl v, S') => _ | some (.inr E, S') => _ | none => none) else none) = _
      rw [h2, hb.1.2, hb.2]
      split at h
      · next v S' hr =>
        cases h
        rw [hf _ _ _ hr g g2]
        show some (Sum.inl (n, pL L, (v.map pV).toList ++ (st.drop (na + 1)).map pV, pS dd T S')) = some (Sum.inl (n, pL L, (v.toList ++ st.drop (na + 1)).map pV, pS dd T S'))
        rw [List.map_append, pV_list]
      · next E S' hr =>
        have q := q_hdl (dd := dd) (T := T) h
        rw [hf _ _ _ hr g (by rw [q.1] at g2; exact g2)]
        exact q.2
      · cases h
  · cases h
theorem q_clCS (n na : Nat) (hs : List (Nat × Nat × Nat)) {f : mm_F} (hf : mm_QF dd T f) : mm_Q1 dd T (mm_clCS n na f hs) := by
  intro L st S z h g g2
  unfold mm_clCS at h ⊢
  rw [← List.map_take, ← List.map_reverse, ← List.map_drop, List.length_map, cat_pV]
  cases hb : (Nat.ble na st.length && Nat.ble (mm_cat (st.drop na)) 8) with
  | false => rw [hb] at h; cases h
  | true =>
    rw [hb, cond_true] at h
    rw [cond_true]
    split at h
    · next v S' hr =>
      cases h
      rw [hf _ _ _ hr g g2]
      show some (Sum.inl (n, pL L, (v.map pV).toList ++ (st.drop na).map pV, pS dd T S')) = some (Sum.inl (n, pL L, (v.toList ++ st.drop na).map pV, pS dd T S'))
      rw [List.map_append, pV_list]
    · next E S' hr =>
      have q := q_hdl (dd := dd) (T := T) h
      rw [hf _ _ _ hr g (by rw [q.1] at g2; exact g2)]
      exact q.2
    · cases h
end ROWS
