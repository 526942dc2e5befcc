def mm_nest : List (String × Nat × MethodName) := [("Linkcourt", 9, ⟨"Linkcourt$Board", "<init>", "()V"⟩), ("Linkcourt", 69, ⟨"Linkcourt$Times", "<init>", "()V"⟩), ("Linkcourt", 76, ⟨"Linkcourt$Ladder", "<init>", "()V"⟩), ("Linkcourt$Play", 66, ⟨"Linkcourt", "has", "(JI)Z"⟩), ("Linkcourt$Patterns", 67, ⟨"Linkcourt", "has", "(JI)Z"⟩), ("Linkcourt$Times", 42, ⟨"Linkcourt", "isPlayer", "(I)Z"⟩), ("Linkcourt$Gaps", 22, ⟨"Linkcourt", "has", "(JI)Z"⟩), ("Linkcourt$BestPlay", 68, ⟨"Linkcourt", "has", "(JI)Z"⟩), ("Linkcourt$Links", 77, ⟨"Linkcourt", "has", "(JI)Z"⟩), ("Linkcourt$Ways", 44, ⟨"Linkcourt", "has", "(JI)Z"⟩), ("Linkcourt$PlayingOut", 45, ⟨"Linkcourt", "has", "(JI)Z"⟩), ("Linkcourt$PlayingOut", 42, ⟨"Linkcourt", "lowest", "(J)I"⟩)]
def mm_strs : List (Nat × String) := [(179, "what is out of range"), (112, "there is no such cell"), (315, "there is no such pattern or player"), (354, "there is no such person"), (260, "there is no such player"), (87, "there is no such board"), (123, "the cell is not empty"), (131, "the game is over"), (147, "it is not the second move of a game that goes on"), (155, "no move can be taken back"), (208, "direction is out of range"), (364, "more than 9 cells are empty"), (369, "there is no such player, cell or side"), (375, "these are no two ends of that player"), (244, "there is no such move"), (249, "that move is the swap"), (255, "more than 9 cells were empty"), (265, "the player 1 closes a ring there"), (272, "seed or times is out of range"), (274, "somebody has joined"), (302, "the tape is no pattern"), (307, "there are 6 patterns"), (324, "there are no such clocks"), (329, "it is too late for clocks"), (334, "seconds is out of range"), (336, "no clock ticks"), (346, "there are 10 persons"), (356, "both persons are the same"), (358, "the game goes on, or was recorded"), (283, "seed is out of range"), (288, "these are no characters of the tape"), (293, "the tape would be too long")]
def mm_ws : List Cond := lw_tbl.filter goodWord
theorem mm_mem {w : Cond} (h : w ∈ lw_tbl) (g : goodWord w = true) : w ∈ mm_ws := List.mem_filter.mpr ⟨h, g⟩
theorem mm_memI {w : Cond} (i : Nat) (h : lw_tbl[i]? = some w) (g : goodWord w = true) : w ∈ mm_ws := mm_mem (List.mem_of_getElem? h) g
/-! what is said of the tables apart from the good words -/
def mm_dcl : List MethodName := [⟨"java/lang/RuntimeException", "<init>", "(Ljava/lang/String;)V"⟩, ⟨"java/lang/Exception", "<init>", "(Ljava/lang/String;)V"⟩, ⟨"java/lang/Throwable", "<init>", "(Ljava/lang/String;)V"⟩]
def mm_EX (U : State) : Prop := (∀ q ∈ mm_nest, va_Nw (.methodLinkNest q.1 q.2.1 q.2.2 "Linkcourt") U) ∧ (∀ q ∈ mm_strs, ∃ a, vk_R "Linkcourt" q.1 q.2 a U) ∧ (∀ E, E = 1 ∨ E = 2 ∨ E = 3 → va_Nw (.castable (mm_xn E) (mm_xn E)) U) ∧ (∀ E E', (E = 1 ∨ E = 2 ∨ E = 3) → (E' = 1 ∨ E' = 2 ∨ E' = 3) → E ≠ E' → va_Nc (mm_xn E) (mm_xn E') U) ∧ ∀ q ∈ mm_dcl, va_Nw (.declares q) U
theorem mm_EX.warm {s U : State} (hW : s.WarmedH U.vm) (h : mm_EX s) : mm_EX U := by
  obtain ⟨h1, h2, h3, h4, h5⟩ := h
  exact ⟨fun q hq => va_Nw.warmM hW (h1 q hq), fun q hq => (h2 q hq).elim fun a ha => ⟨a, vk_R.warm hW ha⟩, fun E hE => va_Nw.warmC hW (h3 E hE), fun E E' a b c => va_Nc.moved hW.alike (h4 E E' a b c), fun q hq => va_Nw.warmD hW (h5 q hq)⟩
theorem mm_EX.same {s U : State} (hv : s.vm = U.vm) (h : mm_EX s) : mm_EX U := by
  obtain ⟨h1, h2, h3, h4, h5⟩ := h
  exact ⟨fun q hq => va_Nw.same rfl hv (h1 q hq), fun q hq => (h2 q hq).elim fun a ha => ⟨a, vk_R.same hv.symm ha⟩, fun E hE => va_Nw.same rfl hv (h3 E hE), fun E E' a b c => va_Nc.moved (hv ▸ Vm.Alike.refl s.vm) (h4 E E' a b c), fun q hq => va_Nw.same rfl hv (h5 q hq)⟩
/-- the static rows, and the two statics of Throwable's -/
def mm_Out (ad : Nat → Nat) (A : Nat → Prop) (U : State) (H : Heap) : Prop :=
  (∀ i q, mm_sta[i]? = some q → va_Z q.1 q.2.1 "[I" (.ref (ad (1000 + i))) A U H ∧ va_T .int (ad (1000 + i)) q.2.2.1 (fun j => .int (q.2.2.2.getD j 0)) A U H) ∧
  vx_Zq Bundle.tN "UNASSIGNED_STACK" Bundle.steD A U H ∧ vx_Zq Bundle.tN "SUPPRESSED_SENTINEL" Bundle.listD A U H
theorem mm_Out.moved {ad : Nat → Nat} {A : Nat → Prop} {u U : State} {H : Heap} (hvm : u.vm.Alike U.vm) (h : mm_Out ad A u H) : mm_Out ad A U H :=
  ⟨fun i q hq => ⟨va_Z.moved hvm (h.1 i q hq).1, va_T.moved hvm (h.1 i q hq).2⟩, vx_Zq.moved hvm h.2.1, vx_Zq.moved hvm h.2.2⟩
theorem mm_Out.kept {ad : Nat → Nat} {A : Nat → Prop} {U : State} {H H1 : Heap} (h : mm_Out ad A U H) (hq : ∀ a : Nat, a < H.size → ¬ A a → H1[a]? = H[a]?) : mm_Out ad A U H1 :=
  ⟨fun i q hi => ⟨va_Z.kept (h.1 i q hi).1 hq, va_T.kept (h.1 i q hi).2 hq⟩, vx_Zq.kept h.2.1 hq, vx_Zq.kept h.2.2 hq⟩
theorem mm_Out.narrow {ad : Nat → Nat} {A B : Nat → Prop} {U : State} {H : Heap} (h : mm_Out ad A U H) (hAB : ∀ q, B q → A q) : mm_Out ad B U H :=
  ⟨fun i q hi => ⟨va_Z.narrow (h.1 i q hi).1 hAB, va_T.narrow (h.1 i q hi).2 hAB⟩, vx_Zq.narrow h.2.1 hAB, vx_Zq.narrow h.2.2 hAB⟩
theorem mm_Out.ad {ad ad' : Nat → Nat} {A : Nat → Prop} {U : State} {H : Heap} (h : mm_Out ad A U H) (he : ∀ k, 1000 ≤ k → ad' k = ad k) : mm_Out ad' A U H :=
  ⟨fun i q hi => by rw [he _ (Nat.le_add_right _ _)]; exact h.1 i q hi, h.2⟩
/-! the world of a store -/
def mm_cv (ad : Nat → Nat) : Value → Value
  | .ref k => .ref (ad k)
  | v => v
def mm_fv (ad : Nat → Nat) (S : mm_S) (k ci p : Nat) : Value := match mm_kd ci p with
  | 0 => .int (S.2.2.2.1 k p)
  | 1 => .long (S.2.2.2.2.1 k p)
  | _ => mm_cv ad (S.2.2.1 k p)
def mm_fl (ad : Nat → Nat) (S : mm_S) (k ci : Nat) : List Value := (List.range (mm_nf ci)).map (mm_fv ad S k ci)
def mm_ac (S : mm_S) (k t : Nat) : (Nat → Int32) ⊕ (Nat → Int64) ⊕ (Nat → UInt32) ⊕ (Nat → UInt64) ⊕ (Nat → Option Nat) := if t = 1 then .inr (.inl (S.2.2.2.2.2.2 k)) else .inl (S.2.2.2.2.2.1 k)
def mm_ce (ad : Nat → Nat) (tc : Nat → ClassId) (S : mm_S) (k : Nat) : va_E := match mm_lay k with
  | .inl ci => .inr (ci, mm_fl ad S k ci)
  | .inr q => .inl (tc q.1, q.2, mm_ac S k q.1)
def mm_w (ad : Nat → Nat) (tc : Nat → ClassId) (S : mm_S) : va_W := (List.range S.1).map (fun k => (ad k, mm_ce ad tc S k))
def mm_at (t : Nat) : FieldType := if t = 0 then .int else if t = 1 then .long else if t = 2 then .byte else .char
def mm_tys (tc : Nat → ClassId) : List (ClassId × FieldType) := [(tc 0, .int), (tc 1, .long), (tc 2, .byte), (tc 3, .char)]
theorem mm_tys_at {tc : Nat → ClassId} {t : Nat} (h : t < 4) : (mm_tys tc)[t]? = some (tc t, mm_at t) := by
  rcases (show t = 0 ∨ t = 1 ∨ t = 2 ∨ t = 3 by omega) with rfl | rfl | rfl | rfl <;> rfl
theorem mm_w_get {ad : Nat → Nat} {tc : Nat → ClassId} {S : mm_S} {k : Nat} (h : k < S.1) : (mm_w ad tc S)[k]? = some (ad k, mm_ce ad tc S k) := by
  unfold mm_w
  rw [List.getElem?_map, List.getElem?_range h]
  rfl
theorem mm_w_len {ad : Nat → Nat} {tc : Nat → ClassId} {S : mm_S} : (mm_w ad tc S).length = S.1 := by
  unfold mm_w
  simp
theorem mm_w_set {ad : Nat → Nat} {tc : Nat → ClassId} {S S' : mm_S} {k : Nat} (hn : S'.1 = S.1) (ho : ∀ j, j ≠ k → mm_ce ad tc S' j = mm_ce ad tc S j) : mm_w ad tc S' = (mm_w ad tc S).set k (ad k, mm_ce ad tc S' k) := by
  apply List.ext_getElem?
  intro i
  rw [List.getElem?_set]
  by_cases hi : i < S.1
  · rw [mm_w_get (by rw [hn]; exact hi)]
    split
    · next h =>
      subst h
      rw [mm_w_len, if_pos hi]
    · next h => rw [mm_w_get hi, ho i (fun e => h e.symm)]
  · rw [List.getElem?_eq_none (by rw [mm_w_len]; omega)]
    split
    · next h =>
      subst h
      rw [mm_w_len, if_neg hi]
    · rw [List.getElem?_eq_none (by rw [mm_w_len]; omega)]
theorem mm_w_ad {ad ad' : Nat → Nat} {tc : Nat → ClassId} {S : mm_S} (h : ∀ k, k < S.1 → ad' k = ad k ∧ mm_ce ad' tc S k = mm_ce ad tc S k) : mm_w ad' tc S = mm_w ad tc S := by
  unfold mm_w
  apply List.map_congr_left
  intro k hk
  have hk : k < S.1 := List.mem_range.mp hk
  rw [(h k hk).1, (h k hk).2]
/-- a value whose cell is there -/
def mm_vk (n : Nat) (v : Value) : Prop := ∀ k, v = .ref k → k < n ∨ 1000 ≤ k
def mm_Rv (S : mm_S) : Prop := ∀ k p, mm_vk S.1 (S.2.2.1 k p)
theorem mm_vk.mono {n n' : Nat} {v : Value} (h : mm_vk n v) (hn : n ≤ n') : mm_vk n' v := fun k e => (h k e).imp (fun a => Nat.lt_of_lt_of_le a hn) id
theorem mm_cv_eq {ad ad' : Nat → Nat} {n : Nat} {v : Value} (h1 : ∀ k, k < n → ad' k = ad k) (h2 : ∀ k, 1000 ≤ k → ad' k = ad k) (hv : mm_vk n v) : mm_cv ad' v = mm_cv ad v := by
  cases v with
  | ref k =>
    rcases hv k rfl with h | h
    · show Value.ref (ad' k) = Value.ref (ad k)
      rw [h1 k h]
    · show Value.ref (ad' k) = Value.ref (ad k)
      rw [h2 k h]
  | _ => rfl
theorem mm_ce_ad {ad ad' : Nat → Nat} {tc : Nat → ClassId} {S : mm_S} (h1 : ∀ k, k < S.1 → ad' k = ad k) (h2 : ∀ k, 1000 ≤ k → ad' k = ad k) (hR : mm_Rv S) (k : Nat) : mm_ce ad' tc S k = mm_ce ad tc S k := by
  unfold mm_ce
  split
  · next ci hc =>
    have : mm_fl ad' S k ci = mm_fl ad S k ci := by
      unfold mm_fl
      apply List.map_congr_left
      intro p _
      unfold mm_fv
      split
      · rfl
      · rfl
      · exact mm_cv_eq h1 h2 (hR k p)
    rw [this]
  · rfl
theorem mm_cv_cat (ad : Nat → Nat) (v : Value) : (mm_cv ad v).category = v.category := by cases v <;> rfl
theorem mm_cv_sum (ad : Nat → Nat) (st : List Value) : ((st.map (mm_cv ad)).map fun v => v.category).sum = mm_cat st := by
  unfold mm_cat
  rw [List.map_map]
  congr 1
  apply List.map_congr_left
  intro v _
  exact mm_cv_cat ad v
/-! the locals -/
def mm_LH (ad : Nat → Nat) (ls : Array Slot) (nL : Nat) (L : mm_L) : Prop := ls.size = nL ∧ lv_wf ls ∧ ∀ (i : Nat) (v : Value), L[i]? = some (some v) → ls[i]? = some (Slot.val (mm_cv ad v))
def mm_as (ad : Nat → Nat) (L : mm_L) : List (Nat × Value) := (List.range L.length).filterMap (fun i => match L[i]? with
  | some (some v) => some (i, mm_cv ad v)
  | _ => none)
theorem mm_as_mem {ad : Nat → Nat} {L : mm_L} {q : Nat × Value} : q ∈ mm_as ad L ↔ ∃ v, L[q.1]? = some (some v) ∧ q.2 = mm_cv ad v := by
  unfold mm_as
  rw [List.mem_filterMap]
  constructor
  · rintro ⟨i, -, h⟩
    split at h
    · next v hv =>
      cases h
      exact ⟨v, hv, rfl⟩
    · cases h
  · rintro ⟨v, h, e⟩
    refine ⟨q.1, List.mem_range.mpr (List.getElem?_eq_some_iff.mp h).1, ?_⟩
    rw [h]
    show some (q.1, mm_cv ad v) = some q
    rw [← e]
theorem mm_LH.has {ad : Nat → Nat} {ls : Array Slot} {nL : Nat} {L : mm_L} (h : mm_LH ad ls nL L) : lv_has ls nL (mm_as ad L) := by
  refine ⟨h.1, h.2.1, fun q hq => ?_⟩
  obtain ⟨v, hv, e⟩ := mm_as_mem.mp hq
  rw [e]
  exact h.2.2 _ _ hv
theorem mm_LH.ad {ad ad' : Nat → Nat} {ls : Array Slot} {nL n : Nat} {L : mm_L} (h : mm_LH ad ls nL L) (h1 : ∀ k, k < n → ad' k = ad k) (h2 : ∀ k, 1000 ≤ k → ad' k = ad k) (hv : ∀ (i : Nat) (v : Value), L[i]? = some (some v) → mm_vk n v) : mm_LH ad' ls nL L :=
  ⟨h.1, h.2.1, fun i v e => by rw [mm_cv_eq h1 h2 (hv i v e)]; exact h.2.2 i v e⟩
theorem mm_s0_get {L : mm_L} {i j : Nat} {v : Value} (h : (mm_s0 L i)[j]? = some (some v)) : L[j]? = some (some v) ∧ ¬ (j + 1 = i ∧ v.category = 2) := by
  cases i with
  | zero => exact ⟨h, fun e => by omega⟩
  | succ i =>
    have h2 : (L.modify i mm_cl)[j]? = some (some v) := h
    clear h
    rw [List.getElem?_modify] at h2
    cases hL : L[j]? with
    | none => rw [hL] at h2; cases h2
    | some o =>
      rw [hL] at h2
      have h2 : some (if i = j then mm_cl o else o) = some (some v) := h2
      by_cases e : i = j
      · rw [if_pos e] at h2
        have h3 : mm_cl o = some v := Option.some.inj h2
        cases o with
        | none => cases h3
        | some w =>
          cases w <;> first | (cases h3; exact ⟨rfl, fun q => (by cases q.2)⟩) | cases h3
      · rw [if_neg e] at h2
        have h3 : o = some v := Option.some.inj h2
        exact ⟨by rw [h3], fun q => e (by omega)⟩
theorem mm_LH.st1 {ad : Nat → Nat} {ls' : Array Slot} {nL i : Nat} {L : mm_L} {v : Value} (h : lv_has ls' nL ((i, mm_cv ad v) :: (mm_as ad L).filter (fun q => !(q.1 == i) && !(q.1 + 1 == i && q.2.category == 2)))) : mm_LH ad ls' nL (mm_s1 L i v) := by
  refine ⟨h.1, h.2.1, fun j w e => ?_⟩
  unfold mm_s1 at e
  rw [List.getElem?_set] at e
  split at e
  · next hj =>
    subst hj
    split at e
    · cases e
      exact h.2.2 (i, mm_cv ad v) List.mem_cons_self
    · cases e
  · next hj =>
    obtain ⟨e1, e2⟩ := mm_s0_get e
    refine h.2.2 (j, mm_cv ad w) (List.mem_cons_of_mem _ (List.mem_filter.mpr ⟨mm_as_mem.mpr ⟨w, e1, rfl⟩, ?_⟩))
    have a : (j == i) = false := by simp; omega
    have b : (j + 1 == i && (mm_cv ad w).category == 2) = false := by
      rw [mm_cv_cat]
      cases hq : (j + 1 == i && w.category == 2) with
      | false => rfl
      | true =>
        simp only [Bool.and_eq_true, beq_iff_eq] at hq
        exact absurd hq e2
    show (!(j == i) && !(j + 1 == i && (mm_cv ad w).category == 2)) = true
    rw [a, b]
    rfl
theorem mm_LH.st2 {ad : Nat → Nat} {ls' : Array Slot} {nL i : Nat} {L : mm_L} {v : Value} (h : lv_has ls' nL ((i, mm_cv ad v) :: (mm_as ad L).filter (fun q => !(q.1 == i) && (!(q.1 == i + 1) && !(q.1 + 1 == i && q.2.category == 2))))) : mm_LH ad ls' nL (mm_s2 L i v) := by
  refine ⟨h.1, h.2.1, fun j w e => ?_⟩
  unfold mm_s2 at e
  rw [List.getElem?_set] at e
  split at e
  · next hj =>
    split at e
    · cases e
    · cases e
  · next hk =>
    rw [List.getElem?_set] at e
    split at e
    · next hj =>
      subst hj
      split at e
      · cases e
        exact h.2.2 (i, mm_cv ad v) List.mem_cons_self
      · cases e
    · next hj =>
      obtain ⟨e1, e2⟩ := mm_s0_get e
      refine h.2.2 (j, mm_cv ad w) (List.mem_cons_of_mem _ (List.mem_filter.mpr ⟨mm_as_mem.mpr ⟨w, e1, rfl⟩, ?_⟩))
      have a : (j == i) = false := by simp; omega
      have a2 : (j == i + 1) = false := by simp; omega
      have b : (j + 1 == i && (mm_cv ad w).category == 2) = false := by
        rw [mm_cv_cat]
        cases hq : (j + 1 == i && w.category == 2) with
        | false => rfl
        | true =>
          simp only [Bool.and_eq_true, beq_iff_eq] at hq
          exact absurd hq e2
      show (!(j == i) && (!(j == i + 1) && !(j + 1 == i && (mm_cv ad w).category == 2))) = true
      rw [a, a2, b]
      rfl
theorem mm_s1_vk {L : mm_L} {i n : Nat} {v : Value} (hL : ∀ (j : Nat) (w : Value), L[j]? = some (some w) → mm_vk n w) (hv : mm_vk n v) : ∀ (j : Nat) (w : Value), (mm_s1 L i v)[j]? = some (some w) → mm_vk n w := by
  intro j w e
  unfold mm_s1 at e
  rw [List.getElem?_set] at e
  split at e
  · split at e
    · cases e; exact hv
    · cases e
  · exact hL j w (mm_s0_get e).1
theorem mm_s2_vk {L : mm_L} {i n : Nat} {v : Value} (hL : ∀ (j : Nat) (w : Value), L[j]? = some (some w) → mm_vk n w) (hv : mm_vk n v) : ∀ (j : Nat) (w : Value), (mm_s2 L i v)[j]? = some (some w) → mm_vk n w := by
  intro j w e
  unfold mm_s2 at e
  rw [List.getElem?_set] at e
  split at e
  · split at e
    · cases e
    · cases e
  · rw [List.getElem?_set] at e
    split at e
    · split at e
      · cases e; exact hv
      · cases e
    · exact hL j w (mm_s0_get e).1
