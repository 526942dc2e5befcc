/-! what is true of an object's words; what each call makes of them -/
def NJ (K R C : Nat) (lg : Nat → Nat) (sw : Bool) (m : Nat) : Prop := ∀ j, j < m → jnd K R C (aS lg sw j 0) (aS lg sw j 1) = iN
def sumR (ra : Nat → Int) : Nat → Int
  | 0 => 0
  | k + 1 => sumR ra k + ra k
def RaI (n : Nat) (ra : Nat → Int) : Prop := sumR ra n = 1000 * (n : Int)
def PlI (n : Nat) (pl : Nat → Nat) : Prop := (∀ p, p < n → pl p < n) ∧ (∀ p q, p < n → q < n → pl p = pl q → p = q)
def HexP (K R C : Nat) : Prop := ∀ w : Int64, (∀ c, mb w c = true → c < bN K R C) → jnB K R C 0 w = !jnB K R C 1 ((mbit (bN K R C) - 1) &&& (w ^^^ (-1)))
abbrev BXd (K R C : Nat) (lg : Nat → Nat) (m : Nat) (sw : Bool) (ea : Nat) (tk : Bool) (se pe us : Nat → Nat) (lo : Nat) (rc : Bool) (t : Nat) (tp : Nat → Nat) (pn : Nat) (ln : Nat → Nat) (tx : Nat → Nat → Nat) (n : Nat) (ra : Nat → Int) (pl wo ls : Nat → Nat) (c : Nat) : Prop := WG K R C lg m sw ∧ TB ea tk se pe us lo ∧ YB t tp ∧ PB pn ln tx ∧ LB n ra pl wo ls c ∧ NJ K R C lg sw m ∧ (tk = false → lo = 0) ∧ (rc = true → ¬ wnr K R C lg m sw lo = iN) ∧ RaI n ra ∧ PlI n pl ∧ HexP K R C ∧ c ≤ 10000 ∧ (∀ p, wo p ≤ c)
theorem TB.zero : TB 0 false (fun _ => 0) (fun _ => 0) (fun _ => 0) 0 := ⟨by decide, fun z => (by cases z), fun p hp => ⟨Nat.zero_le _, Nat.zero_le _, Nat.zero_le _, fun _ => Nat.zero_le _, fun z => absurd z (Nat.lt_irrefl _)⟩⟩
theorem YB.zero {tp : Nat → Nat} : YB 0 tp := fun j hj => absurd hj (Nat.not_lt_zero _)
theorem Cal.no {f : mm_F} {as : List Value} {v : Option Value} {W : P4} (h : ∀ e I J A B, W I J A B → f (.ref 0 :: as) (79, e, mm_R0, I, J, A, B) = some (.inl v, (79, e + 1, mm_R0, I, J, A, B))) : Cal f as v W W := fun e I J A B w => ⟨e + 1, I, J, A, B, h e I J A B w, w, H39.rf, Nat.le_refl _⟩
theorem Cal.eq {f : mm_F} {as : List Value} {v : Option Value} {W : P4} (h : ∀ e I J A B, W I J A B → f (.ref 0 :: as) (79, e, mm_R0, I, J, A, B) = some (.inl v, (79, e, mm_R0, I, J, A, B))) : Cal f as v W W := fun e I J A B w => ⟨e, I, J, A, B, h e I J A B w, w, H39.rf, Nat.le_succ _⟩
section
variable {K R C : Nat} {lg : Nat → Nat} {m : Nat} {sw : Bool} {ea : Nat} {tk : Bool} {se pe us : Nat → Nat} {lo : Nat} {rc : Bool} {t : Nat} {tp : Nat → Nat} {pn : Nat} {ln : Nat → Nat} {tx : Nat → Nat → Nat} {n : Nat} {ra : Nat → Int} {pl wo ls : Nat → Nat}
theorem cx_game {K' R' C' : Nat} (v : bV K' R' C' = true) (q : brP (i32 K') (i32 R') (i32 C') = true) : Cal f_X10_game [.int (i32 K'), .int (i32 R'), .int (i32 C')] (some (.int (i32 (bN K' R' C')))) (fun I J A B => CSd K R C lg m sw ea tk se pe us lo rc t tp pn ln tx n ra pl wo ls I J A B) (fun I J A B => CSd K' R' C' (fun _ => 0) 0 false 0 false (fun _ => 0) (fun _ => 0) (fun _ => 0) 0 false t tp pn ln tx n ra pl wo ls I J A B) := by
  intro e I J A B hc
  obtain ⟨g, tc, r, y, p, u, l⟩ := hc
  obtain ⟨I1, J1, A1, B1, a1, g1, t1, r1, fI, fJ, fA, fB⟩ := cC_game e I J A B v q g.2.2.2.2.2.1.1 g.2.2.2.2.2.2
  have hA : ∀ i, 24 ≤ i → i < 31 ∨ 33 < i → A1 i = A i := fun i h1 h2 => fA i (by omega) (by omega) (by omega) (by omega) (by omega) (by omega)
  have hI : ∀ i, i = 24 ∨ 34 ≤ i → I1 i = I i := fun i h1 => fI i (by omega) (by omega) (by omega) (by omega) (by omega)
  exact ⟨e, I1, J1, A1, B1, a1, ⟨g1, t1, r1, y.co (by rw [hI 24 (by decide)]) (hA 25 (by decide) (by decide)), p.co (by rw [hI 24 (by decide)]) (hA 26 (by decide) (by decide)) (hA 27 (by decide) (by decide)), u.co (hA 28 (by decide) (by decide)) (hA 29 (by decide) (by decide)), l.co (by rw [hI 34 (by decide)]) (hA 35 (by decide) (by decide)) (hA 36 (by decide) (by decide)) (hA 37 (by decide) (by decide)) (hA 38 (by decide) (by decide))⟩, ⟨fun i hi => hI i (by omega), fun i hi => fJ i (by omega) (by omega), fun i hi => hA i (by omega) (by omega), fun i hi => fB i (by omega) (by omega)⟩, Nat.le_succ _⟩
theorem cx_move (w : WG K R C lg m sw) (hl : lo ≤ 2) {d : Nat} (he : mb (emp (bN K R C) (sN lg m sw 0) (sN lg m sw 1)) d = true) (hw : wnr K R C lg m sw lo = iN) : Cal f_X10_move [.int (i32 d)] (some (.int (wnr K R C (lgp lg m d) (m + 1) sw lo))) (fun I J A B => CSd K R C lg m sw ea tk se pe us lo rc t tp pn ln tx n ra pl wo ls I J A B) (fun I J A B => CSd K R C (lgp lg m d) (m + 1) sw ea tk se pe (upN us (m % 2) 0) lo rc t tp pn ln tx n ra pl wo ls I J A B) := by
  intro e I J A B hc
  obtain ⟨I1, J1, A1, a1, g1, t1, f1⟩ := cC_move e I J A B hc.1 w hc.2.1 hl he hw
  exact ⟨e, I1, J1, A1, B, a1, hc.fv g1 t1 f1, f1.h39, Nat.le_succ _⟩
theorem cx_swap (w : WG K R C lg 1 sw) (hl : lo ≤ 2) (hw : wnr K R C lg 1 sw lo = iN) : Cal f_X10_swap [] (some (.int (i32 (mirB K R C (lg 0))))) (fun I J A B => CSd K R C lg 1 sw ea tk se pe us lo rc t tp pn ln tx n ra pl wo ls I J A B) (fun I J A B => CSd K R C (lgp lg 1 (mirB K R C (lg 0))) 2 true ea tk se pe (upN us 1 0) lo rc t tp pn ln tx n ra pl wo ls I J A B) := by
  intro e I J A B hc
  obtain ⟨I1, J1, A1, a1, g1, t1, f1⟩ := cC_swap e I J A B hc.1 w hc.2.1 hl hw
  exact ⟨e, I1, J1, A1, B, a1, CSd.fv hc g1 t1 f1, f1.h39, Nat.le_succ _⟩
theorem cx_undo (h0 : 0 < m) : Cal f_X10_undo [] (some (.int (i32 (m - 1)))) (fun I J A B => CSd K R C lg m sw ea tk se pe us 0 false t tp pn ln tx n ra pl wo ls I J A B) (fun I J A B => CSd K R C lg (m - 1) (swB sw m) ea tk se pe us 0 false t tp pn ln tx n ra pl wo ls I J A B) := by
  intro e I J A B hc
  obtain ⟨I1, J1, a1, g1, f1⟩ := cC_undo e I J A B hc.1 hc.2.1 hc.2.2.1 h0
  exact ⟨e, I1, J1, A, B, a1, CSd.fv hc g1 (TC.co hc.2.1 (f1.1 30 (by decide)) rfl rfl rfl) f1, f1.h39, Nat.le_succ _⟩
theorem cx_plays {s k : Nat} (hs : s ≤ 1000000) (h1 : 1 ≤ k) (h2 : k ≤ 50) (hj : jnd K R C (sN lg m sw 0) (sN lg m sw 1) = iN) : Cal f_X10_plays [.int (i32 s), .int (i32 k)] (some (.int (i32 (plV K R C lg m sw s k)))) (fun I J A B => CSd K R C lg m sw ea tk se pe us lo rc t tp pn ln tx n ra pl wo ls I J A B) (fun I J A B => CSd K R C lg m sw ea tk se pe us lo rc t tp pn ln tx n ra pl wo ls I J A B) := by
  intro e I J A B hc
  obtain ⟨J1, a1, q1, f1⟩ := cC_plays e I J A B hc.1 hs h1 h2 hj
  exact ⟨e, I, J1, A, B, a1, hc.fc f1 q1, f1.h39, Nat.le_succ _⟩
theorem cx_playedOut {s : Nat} (hs : s ≤ 1000000) (hj : jnd K R C (sN lg m sw 0) (sN lg m sw 1) = iN) : Cal f_X10_playedOut [.int (i32 s)] (some (.long (poV K R C lg m sw s))) (fun I J A B => CSd K R C lg m sw ea tk se pe us lo rc t tp pn ln tx n ra pl wo ls I J A B) (fun I J A B => CSd K R C lg m sw ea tk se pe us lo rc t tp pn ln tx n ra pl wo ls I J A B) := by
  intro e I J A B hc
  obtain ⟨J1, a1, q1, f1⟩ := cC_playedOut e I J A B hc.1 hs hj
  exact ⟨e, I, J1, A, B, a1, hc.fc f1 q1, f1.h39, Nat.le_succ _⟩
theorem cx_best (hg : gn (emp (bN K R C) (sN lg m sw 0) (sN lg m sw 1)) ≤ 9) : Cal f_X10_best [] (some (.int (i32 (bestV K R C (sN lg m sw 0) (sN lg m sw 1) (m % 2))))) (fun I J A B => CSd K R C lg m sw ea tk se pe us lo rc t tp pn ln tx n ra pl wo ls I J A B) (fun I J A B => CSd K R C lg m sw ea tk se pe us lo rc t tp pn ln tx n ra pl wo ls I J A B) := by
  intro e I J A B hc
  obtain ⟨I1, J1, A1, a1, q1, f1⟩ := cC_best e I J A B hc.1 hg
  exact ⟨e, I1, J1, A1, B, a1, hc.fc f1 q1, f1.h39, Nat.le_succ _⟩
theorem cx_lasts (hg : gn (emp (bN K R C) (sN lg m sw 0) (sN lg m sw 1)) ≤ 9) : Cal f_X10_lasts [] (some (.int (si (lastV K R C (sN lg m sw 0) (sN lg m sw 1) (m % 2))))) (fun I J A B => CSd K R C lg m sw ea tk se pe us lo rc t tp pn ln tx n ra pl wo ls I J A B) (fun I J A B => CSd K R C lg m sw ea tk se pe us lo rc t tp pn ln tx n ra pl wo ls I J A B) := by
  intro e I J A B hc
  obtain ⟨I1, J1, A1, a1, q1, f1⟩ := cC_lasts e I J A B hc.1 hg
  exact ⟨e, I1, J1, A1, B, a1, hc.fc f1 q1, f1.h39, Nat.le_succ _⟩
theorem cx_wins (hg : gn (emp (bN K R C) (sN lg m sw 0) (sN lg m sw 1)) ≤ 9) : Cal f_X10_wins [] (some (.long (winV K R C (sN lg m sw 0) (sN lg m sw 1) (m % 2)))) (fun I J A B => CSd K R C lg m sw ea tk se pe us lo rc t tp pn ln tx n ra pl wo ls I J A B) (fun I J A B => CSd K R C lg m sw ea tk se pe us lo rc t tp pn ln tx n ra pl wo ls I J A B) := by
  intro e I J A B hc
  obtain ⟨I1, J1, A1, a1, q1, f1⟩ := cC_wins e I J A B hc.1 hg
  exact ⟨e, I1, J1, A1, B, a1, hc.fc f1 q1, f1.h39, Nat.le_succ _⟩
theorem cx_gave (w : WG K R C lg m sw) {k : Nat} (hn : k < m) (hs : ¬ (sw = true ∧ k = 1)) (hg : gn (emp (bN K R C) (aS lg sw k 0) (aS lg sw k 1)) ≤ 9) : Cal f_X10_gaveAway [.int (i32 k)] (some (.int (bi (gvV K R C lg sw k)))) (fun I J A B => CSd K R C lg m sw ea tk se pe us lo rc t tp pn ln tx n ra pl wo ls I J A B) (fun I J A B => CSd K R C lg m sw ea tk se pe us lo rc t tp pn ln tx n ra pl wo ls I J A B) := by
  intro e I J A B hc
  obtain ⟨I1, J1, A1, a1, q1, f1⟩ := cC_gave e I J A B hc.1 w hn hs hg
  exact ⟨e, I1, J1, A1, B, a1, hc.fc f1 q1, f1.h39, Nat.le_succ _⟩
theorem cx_far (w : WG K R C lg m sw) {p : Nat} (hp : p < 2) (hk : ¬ (p = 1 ∧ K = 2)) : Cal f_X10_far [.int (i32 p)] (some (.int (farA K R C p (sN lg m sw p) (emp (bN K R C) (sN lg m sw 0) (sN lg m sw 1))))) (fun I J A B => CSd K R C lg m sw ea tk se pe us lo rc t tp pn ln tx n ra pl wo ls I J A B) (fun I J A B => CSd K R C lg m sw ea tk se pe us lo rc t tp pn ln tx n ra pl wo ls I J A B) := by
  intro e I J A B hc
  obtain ⟨A1, a1, q1, f1⟩ := cC_far e I J A B hc.1 w hp hk
  exact ⟨e, I, J, A1, B, a1, hc.fc f1 q1, f1.h39, Nat.le_succ _⟩
theorem cx_think (tk1 : tk = true) (hb : TB ea tk se pe us lo) {d : Nat} (h1 : 1 ≤ d) (h2 : d ≤ 600) (hw : wnr K R C lg m sw lo = iN) : Cal f_X10_think [.int (i32 d)] (some (.int (wnr K R C lg m sw (usL ea se pe us (m % 2) d)))) (fun I J A B => CSd K R C lg m sw ea tk se pe us lo rc t tp pn ln tx n ra pl wo ls I J A B) (fun I J A B => CSd K R C lg m sw ea tk (seV se (m % 2) d) (peV ea se pe us (m % 2) d) (usV ea se pe us (m % 2) d) (usL ea se pe us (m % 2) d) rc t tp pn ln tx n ra pl wo ls I J A B) := by
  intro e I J A B hc
  subst tk1
  obtain ⟨I1, A1, a1, t1, f1⟩ := cC_think e I J A B hc.1 hc.2.1 hb h1 h2 hw
  exact ⟨e, I1, J, A1, B, a1, hc.ft f1 t1, f1.h39, Nat.le_succ _⟩
theorem cx_clocks (tk0 : tk = false) (hl : lo ≤ 2) {s p d : Nat} (h1 : s ≤ 3600) (h2 : p ≤ 9) (h3 : 1 ≤ d) (h4 : d ≤ 60) (h5 : 0 < s + p) (m0 : m = 0) (hw : wnr K R C lg m sw lo = iN) : Cal f_X10_clocks [.int (i32 s), .int (i32 p), .int (i32 d)] none (fun I J A B => CSd K R C lg m sw ea tk se pe us lo rc t tp pn ln tx n ra pl wo ls I J A B) (fun I J A B => CSd K R C lg m sw d true (fun _ => s) (fun _ => p) (fun _ => 0) 0 rc t tp pn ln tx n ra pl wo ls I J A B) := by
  intro e I J A B hc
  subst tk0
  obtain ⟨I1, A1, a1, t1, f1⟩ := cC_clocks e I J A B hc.1 hc.2.1 hl h1 h2 h3 h4 h5 m0 hw
  exact ⟨e, I1, J, A1, B, a1, hc.ft f1 t1, f1.h39, Nat.le_succ _⟩
theorem cx_person (hn : n < 10) : Cal f_X10_person [] (some (.int (i32 n))) (fun I J A B => CSd K R C lg m sw ea tk se pe us lo rc t tp pn ln tx n ra pl wo ls I J A B) (fun I J A B => CSd K R C lg m sw ea tk se pe us lo rc t tp pn ln tx (n + 1) (raN ra n) (upN pl n n) wo ls I J A B) := by
  intro e I J A B hc
  obtain ⟨I1, A1, a1, l1, f1, r1⟩ := cC_person e I J A B hc.2.2.2.2.2.2 hn
  exact ⟨e, I1, J, A1, B, a1, hc.fl f1 (by rw [r1]; exact hc.2.2.1) l1, f1.h39, Nat.le_succ _⟩
theorem cx_record (hl : lo ≤ 2) {c : Nat} (hb : LB n ra pl wo ls c) (hc : c ≤ 10000) {x y : Nat} (hx : x < n) (hy : y < n) (hxy : x ≠ y) (hw : ¬ wnr K R C lg m sw lo = iN) {w l : Nat} (hwl : (wnr K R C lg m sw lo = i32 0 ∧ w = x ∧ l = y) ∨ (¬ wnr K R C lg m sw lo = i32 0 ∧ w = y ∧ l = x)) : Cal f_X10_record [.int (i32 x), .int (i32 y)] (some (.int (si (raV ra w l w)))) (fun I J A B => CSd K R C lg m sw ea tk se pe us lo false t tp pn ln tx n ra pl wo ls I J A B) (fun I J A B => CSd K R C lg m sw ea tk se pe us lo true t tp pn ln tx n (raV ra w l) (plcV pl w l) (upN wo w (wo w + 1)) (upN ls l (ls l + 1)) I J A B) := by
  intro e I J A B h
  obtain ⟨I1, A1, a1, l1, f1, r1⟩ := cC_record e I J A B h.1 h.2.1 hl h.2.2.2.2.2.2 hb hc h.2.2.1 hx hy hxy hw hwl
  exact ⟨e, I1, J, A1, B, a1, CSd.fl h f1 r1 l1, f1.h39, Nat.le_succ _⟩
theorem cx_type {x : Int64} {d : Nat} (c1 : 1 ≤ d) (c2 : d ≤ 8) (ho : okS x d = true) (hl : t + d ≤ 30) : Cal f_X10_type [.long x, .int (i32 d)] (some (.int (i32 (t + d)))) (fun I J A B => CSd K R C lg m sw ea tk se pe us lo rc t tp pn ln tx n ra pl wo ls I J A B) (fun I J A B => CSd K R C lg m sw ea tk se pe us lo rc (t + d) (tpV tp t x d) pn ln tx n ra pl wo ls I J A B) := by
  intro e I J A B hc
  obtain ⟨I1, A1, a1, y1, fI, fP, fA⟩ := cC_type e I J A B hc.2.2.2.1 c1 c2 ho hl
  exact ⟨e, I1, J, A1, B, a1, hc.fy fI (fun i hi => fA i (by omega)) y1 (hc.2.2.2.2.1.co (fP 7 (by decide)) (fA 26 (by decide)) (fA 27 (by decide))) (hc.2.2.2.2.2.1.co (fA 28 (by decide)) (fA 29 (by decide))), ⟨fun i hi => fI i (by omega), fun _ _ => rfl, fun i hi => fA i (by omega), fun _ _ => rfl⟩, Nat.le_succ _⟩
theorem cx_wipe : Cal f_X10_wipe [] (some (.int (i32 t))) (fun I J A B => CSd K R C lg m sw ea tk se pe us lo rc t tp pn ln tx n ra pl wo ls I J A B) (fun I J A B => CSd K R C lg m sw ea tk se pe us lo rc 0 tp pn ln tx n ra pl wo ls I J A B) := by
  intro e I J A B hc
  obtain ⟨a1, a2, a3⟩ := cC_wipe e I J A B hc.2.2.2.1
  exact ⟨e, _, J, A, B, a1, hc.fy a3.1 (fun _ _ => rfl) a2 (hc.2.2.2.2.1.co (mm_up_ne2 _ _ _ _ _ _ (by decide)) rfl rfl) (hc.2.2.2.2.2.1), a3.h39, Nat.le_succ _⟩
theorem cx_pattern (hY : YB t tp) (hP : PB pn ln tx) (hn : pn < 6) (hs : scn tp t 0 0 = iN) : Cal f_X10_pattern [] (some (.int (i32 pn))) (fun I J A B => CSd K R C lg m sw ea tk se pe us lo rc t tp pn ln tx n ra pl wo ls I J A B) (fun I J A B => CSd K R C lg m sw ea tk se pe us lo rc 0 tp (pn + 1) (upN ln pn t) (txV tx pn tp) n ra pl wo ls I J A B) := by
  intro e I J A B hc
  obtain ⟨I1, A1, a1, y1, p1, u1, f1⟩ := cC_pattern e I J A B hc.2.2.2.1 hY hc.2.2.2.2.1 hP hc.2.2.2.2.2.1 hn hs
  exact ⟨e, I1, J, A1, B, a1, hc.fy f1.1 f1.2.2 y1 p1 u1, f1.h39, Nat.le_succ _⟩
/-! links: what a question of them answers -/
theorem cx_carrier {p c1 c2 : Nat} (hp : p < 2) (o1 : okE K R C c1) (o2 : okE K R C c2) (hk : lkC K R C lg m sw true (i32 p) (i32 c1) (i32 c2) = 0) {v0 : Int64} (hv : ∀ v, CarP K R C (emp (bN K R C) (sN lg m sw 0) (sN lg m sw 1)) (sN lg m sw p) c1 c2 v → v = v0) : Cal f_X10_carrier [.int (i32 p), .int (i32 c1), .int (i32 c2)] (some (.long v0)) (fun I J A B => CSd K R C lg m sw ea tk se pe us lo rc t tp pn ln tx n ra pl wo ls I J A B) (fun I J A B => CSd K R C lg m sw ea tk se pe us lo rc t tp pn ln tx n ra pl wo ls I J A B) := by
  intro e I J A B hc
  obtain ⟨I1, J1, A1, v, a1, r1, q1, f1⟩ := cC_carrier e I J A B hc.1 hp o1 o2 hk
  have := hv v r1
  subst this
  exact ⟨e, I1, J1, A1, B, a1, hc.fc f1 q1, f1.h39, Nat.le_succ _⟩
theorem cx_answer {p c1 c2 cl : Nat} (hp : p < 2) (o1 : okE K R C c1) (o2 : okE K R C c2) (hcl : cl < bN K R C) (hk : lkC K R C lg m sw true (i32 p) (i32 c1) (i32 c2) = 0) {v0 : Int32} (hv : ∀ v, AnwP K R C (emp (bN K R C) (sN lg m sw 0) (sN lg m sw 1)) (sN lg m sw p) c1 c2 cl v → v = v0) : Cal f_X10_answer [.int (i32 p), .int (i32 c1), .int (i32 c2), .int (i32 cl)] (some (.int v0)) (fun I J A B => CSd K R C lg m sw ea tk se pe us lo rc t tp pn ln tx n ra pl wo ls I J A B) (fun I J A B => CSd K R C lg m sw ea tk se pe us lo rc t tp pn ln tx n ra pl wo ls I J A B) := by
  intro e I J A B hc
  obtain ⟨I1, J1, A1, v, a1, r1, q1, f1⟩ := cC_answer e I J A B hc.1 hp o1 o2 hcl hk
  have := hv v r1
  subst this
  exact ⟨e, I1, J1, A1, B, a1, hc.fc f1 q1, f1.h39, Nat.le_succ _⟩
end
