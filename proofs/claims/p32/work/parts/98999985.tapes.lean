/-! the law's strips -/
theorem okS_of {x : Int64} : ∀ n, (∀ j, j < n → sgn (byB x j) = true) → okS x n = true := by
  intro n
  induction n with
  | zero => intro _; rfl
  | succ n ih =>
    intro h
    show (okS x n && sgn (byB x n)) = true
    rw [ih (fun j hj => h j (by omega)), h n (by omega)]
    rfl
theorem tn_256 : ∀ c : Fin 256, tn (i32 c.1).toInt64 = c.1 := by decide +kernel
theorem tn_0 : tn (0 : Int64) = 0 := by decide
theorem tn_put (x : Int64) {c i : Nat} (hi : i < 8) (hc : c < 256) (hx : tn x < 2 ^ (8 * i)) : tn (x ||| ((i32 c).toInt64 <<< (((8 : Int32) * i32 i).toInt64 &&& 63))) = c * 2 ^ (8 * i) + tn x := by
  have e1 : tn (x ||| ((i32 c).toInt64 <<< (((8 : Int32) * i32 i).toInt64 &&& 63))) = tn x ||| (tn (i32 c).toInt64 <<< (8 * i)) % 2 ^ 64 := by
    unfold tn
    rw [Int64.toBitVec_or, BitVec.toNat_or, Int64.toBitVec_shiftLeft, sh_a ⟨i, hi⟩, BitVec.shiftLeft_eq', BitVec.toNat_shiftLeft, BitVec.toNat_ofNat, Nat.mod_eq_of_lt (show 8 * i < 2 ^ 64 by omega)]
  have le : c * 2 ^ (8 * i) + 2 ^ (8 * i) ≤ 2 ^ 64 := by
    have a : (c + 1) * 2 ^ (8 * i) ≤ 256 * 2 ^ (8 * i) := Nat.mul_le_mul_right _ (by omega)
    have b : (256 : Nat) * 2 ^ (8 * i) = 2 ^ (8 + 8 * i) := by rw [Nat.pow_add]
    have d : (2 : Nat) ^ (8 + 8 * i) ≤ 2 ^ 64 := Nat.pow_le_pow_right (by decide) (by omega)
    rw [Nat.add_mul, Nat.one_mul] at a
    omega
  have p : 0 < 2 ^ (8 * i) := Nat.pow_pos (by decide)
  rw [e1, show tn (i32 c).toInt64 = c from tn_256 ⟨c, hc⟩, Nat.shiftLeft_eq, Nat.mod_eq_of_lt (by omega), Nat.or_comm, ← Nat.shiftLeft_eq, ← Nat.shiftLeft_add_eq_or_of_lt hx]
theorem byB_put (x : Int64) {c i : Nat} (hi : i < 8) (hc : c < 256) (hx : tn x < 2 ^ (8 * i)) : tn (x ||| ((i32 c).toInt64 <<< (((8 : Int32) * i32 i).toInt64 &&& 63))) < 2 ^ (8 * (i + 1)) ∧ byB (x ||| ((i32 c).toInt64 <<< (((8 : Int32) * i32 i).toInt64 &&& 63))) i = c ∧ ∀ j, j < i → byB (x ||| ((i32 c).toInt64 <<< (((8 : Int32) * i32 i).toInt64 &&& 63))) j = byB x j := by
  have e := tn_put x hi hc hx
  have p : 0 < 2 ^ (8 * i) := Nat.pow_pos (by decide)
  refine ⟨?_, ?_, fun j hj => ?_⟩
  · rw [e, show 8 * (i + 1) = 8 + 8 * i by omega, Nat.pow_add]
    have a : (c + 1) * 2 ^ (8 * i) ≤ 256 * 2 ^ (8 * i) := Nat.mul_le_mul_right _ (by omega)
    rw [Nat.add_mul, Nat.one_mul] at a
    have : (2 : Nat) ^ 8 = 256 := by decide
    rw [this]
    omega
  · unfold byB
    rw [e, Nat.add_comm, Nat.add_mul_div_right _ _ p, Nat.div_eq_of_lt hx, Nat.zero_add]
    exact Nat.mod_eq_of_lt hc
  · unfold byB
    have q : (2 : Nat) ^ (8 * i) = 256 * 2 ^ (8 * (i - j - 1)) * 2 ^ (8 * j) := by
      have : (256 : Nat) = 2 ^ 8 := by decide
      rw [this, ← Nat.pow_add, ← Nat.pow_add]
      congr 1
      omega
    rw [e, q, show c * (256 * 2 ^ (8 * (i - j - 1)) * 2 ^ (8 * j)) = (c * 2 ^ (8 * (i - j - 1)) * 256) * 2 ^ (8 * j) by simp only [Nat.mul_assoc, Nat.mul_comm, Nat.mul_left_comm], Nat.add_comm, Nat.add_mul_div_right _ _ (Nat.pow_pos (by decide)), Nat.add_mul_mod_self_right]
/-- six signs of the first kind: nothing is wrong -/
theorem scn_tol {tp : Nat → Nat} : ∀ d i had, had + d = 6 → (∀ j, i ≤ j → j < i + d → tol (tp j) = true) → scn tp d i had = iN := by
  intro d
  induction d with
  | zero =>
    intro i had h _
    show (if had < 6 then i32 i else iN) = iN
    rw [if_neg (by omega)]
  | succ d ih =>
    intro i had h ht
    have e : nhd had (tp i) = had + 1 := by
      unfold nhd
      rw [if_pos (show had < 6 by omega), if_pos (ht i (Nat.le_refl i) (by omega))]
    show (if nhd had (tp i) = 99 then i32 i else scn tp d (i + 1) (nhd had (tp i))) = iN
    rw [e, if_neg (by omega)]
    exact ih (i + 1) (had + 1) (by omega) (fun j h1 h2 => ht j (by omega) (by omega))
section
variable {K R C : Nat} {lg : Nat → Nat} {m : Nat} {sw : Bool} {ea : Nat} {tk : Bool} {se pe us : Nat → Nat} {lo : Nat} {rc : Bool} {t : Nat} {tp : Nat → Nat} {pn : Nat} {ln : Nat → Nat} {tx : Nat → Nat → Nat} {n : Nat} {ra : Nat → Int} {pl wo ls : Nat → Nat} {c : Nat}
theorem tape_in (e : Nat) (I : Nat → Nat → Int32) (J : Nat → Nat → Int64) (A : Nat → Nat → Int32) (B : Nat → Nat → Int64) (x3 x4 x5 : Int32) {cnt : Nat} (h16 : cnt = 1 ∨ cnt = 6) : ∀ d i (x : Int64) (o : Option Value), i + d = cnt → tn x < 2 ^ (8 * i) → (∀ j, j < i → sgn (byB x j) = true) → (cnt = 6 → ∀ j, j < i → tol (byB x j) = true) → ∃ (x' : Int64) (o' : Option Value), mm_run (mm_pr tb_L_tapes) (40, [some (.ref 0), some (.ref 39), some (.ref 78), some (.int x3), some (.int x4), some (.int x5), some (.long x), none, some (.int (i32 cnt)), some (.int (i32 i)), o], [], (79, e, mm_R0, I, J, A, B)) = mm_aft (mm_pr tb_L_tapes) 164 [some (.ref 0), some (.ref 39), some (.ref 78), some (.int x3), some (.int x4), some (.int x5), some (.long x'), none, some (.int (i32 cnt)), some (.int (i32 cnt)), o'] [] (f_L_type [.ref 0, .long x', .int (i32 cnt)] (79, e, mm_R0, I, J, A, B)) ∧ (∀ j, j < cnt → sgn (byB x' j) = true) ∧ (cnt = 6 → ∀ j, j < 6 → tol (byB x' j) = true) := by
  intro d
  induction d with
  | zero =>
    intro i x o hi hx hs ht
    have e1 : i = cnt := by omega
    subst e1
    refine ⟨x, o, ?_, hs, fun z => by have := ht z; rw [z] at this; exact this⟩
    rw [sg_L_tapes_40, if_neg (by rw [i32_lt (by omega) (by omega)]; omega)]
  | succ d ih =>
    intro i x o hi hx hs ht
    -- one sign is put in
    have put : ∀ (ch : Nat) (o1 : Int32), ch < 256 → sgn ch = true → (cnt = 6 → tol ch = true) → ∃ (x' : Int64) (o' : Option Value), mm_run (mm_pr tb_L_tapes) (140, [some (.ref 0), some (.ref 39), some (.ref 78), some (.int x3), some (.int x4), some (.int x5), some (.long x), none, some (.int (i32 cnt)), some (.int (i32 i)), some (.int o1)], [.int (i32 ch), .long x], (79, e, mm_R0, I, J, A, B)) = mm_aft (mm_pr tb_L_tapes) 164 [some (.ref 0), some (.ref 39), some (.ref 78), some (.int x3), some (.int x4), some (.int x5), some (.long x'), none, some (.int (i32 cnt)), some (.int (i32 cnt)), o'] [] (f_L_type [.ref 0, .long x', .int (i32 cnt)] (79, e, mm_R0, I, J, A, B)) ∧ (∀ j, j < cnt → sgn (byB x' j) = true) ∧ (cnt = 6 → ∀ j, j < 6 → tol (byB x' j) = true) := by
      intro ch o1 c1 c2 c3
      obtain ⟨q1, q2, q3⟩ := byB_put x (c := ch) (i := i) (by omega) c1 hx
      obtain ⟨x', o', k1, k2, k3⟩ := ih (i + 1) (x ||| ((i32 ch).toInt64 <<< (((8 : Int32) * i32 i).toInt64 &&& 63))) (some (.int o1)) (by omega) q1 (fun j hj => by
        by_cases q : j = i
        · rw [q, q2]; exact c2
        · rw [q3 j (by omega)]; exact hs j (by omega)) (fun z j hj => by
        by_cases q : j = i
        · rw [q, q2]; exact c3 z
        · rw [q3 j (by omega)]; exact ht z j (by omega))
      refine ⟨x', o', ?_, k2, k3⟩
      rw [sg_L_tapes_140, show i32 i + (1 : Int32) = i32 (i + 1) from i32_add i 1]
      exact k1
    have chs : ∀ r, r < 7 → (cnt = 6 → r < 5) → ∃ (x' : Int64) (o' : Option Value), mm_run (mm_pr tb_L_tapes) (69, [some (.ref 0), some (.ref 39), some (.ref 78), some (.int x3), some (.int x4), some (.int x5), some (.long x), none, some (.int (i32 cnt)), some (.int (i32 i)), o], [.int (i32 r)], (79, e, mm_R0, I, J, A, B)) = mm_aft (mm_pr tb_L_tapes) 164 [some (.ref 0), some (.ref 39), some (.ref 78), some (.int x3), some (.int x4), some (.int x5), some (.long x'), none, some (.int (i32 cnt)), some (.int (i32 cnt)), o'] [] (f_L_type [.ref 0, .long x', .int (i32 cnt)] (79, e, mm_R0, I, J, A, B)) ∧ (∀ j, j < cnt → sgn (byB x' j) = true) ∧ (cnt = 6 → ∀ j, j < 6 → tol (byB x' j) = true) := by
      intro r hr h5
      rw [sg_L_tapes_69]
      rcases (show r = 0 ∨ r = 1 ∨ r = 2 ∨ r = 3 ∨ r = 4 ∨ r = 5 ∨ r = 6 by omega) with q | q | q | q | q | q | q <;> subst q
      · rw [if_pos (show i32 0 = (0 : Int32) from rfl), show (46 : Int32) = i32 46 from rfl]
        exact put 46 (i32 0) (by decide) (by decide) (fun _ => by decide)
      · rw [if_neg (show ¬ i32 1 = (0 : Int32) by decide), if_pos (show i32 1 = (1 : Int32) from rfl), show (111 : Int32) = i32 111 from rfl]
        exact put 111 (i32 1) (by decide) (by decide) (fun _ => by decide)
      · rw [if_neg (show ¬ i32 2 = (0 : Int32) by decide), if_neg (show ¬ i32 2 = (1 : Int32) by decide), if_pos (show i32 2 = (2 : Int32) from rfl), show (120 : Int32) = i32 120 from rfl]
        exact put 120 (i32 2) (by decide) (by decide) (fun _ => by decide)
      · rw [if_neg (show ¬ i32 3 = (0 : Int32) by decide), if_neg (show ¬ i32 3 = (1 : Int32) by decide), if_neg (show ¬ i32 3 = (2 : Int32) by decide), if_pos (show i32 3 = (3 : Int32) from rfl), show (35 : Int32) = i32 35 from rfl]
        exact put 35 (i32 3) (by decide) (by decide) (fun _ => by decide)
      · rw [if_neg (show ¬ i32 4 = (0 : Int32) by decide), if_neg (show ¬ i32 4 = (1 : Int32) by decide), if_neg (show ¬ i32 4 = (2 : Int32) by decide), if_neg (show ¬ i32 4 = (3 : Int32) by decide), if_pos (show i32 4 = (4 : Int32) from rfl), show (42 : Int32) = i32 42 from rfl]
        exact put 42 (i32 4) (by decide) (by decide) (fun _ => by decide)
      · rw [if_neg (show ¬ i32 5 = (0 : Int32) by decide), if_neg (show ¬ i32 5 = (1 : Int32) by decide), if_neg (show ¬ i32 5 = (2 : Int32) by decide), if_neg (show ¬ i32 5 = (3 : Int32) by decide), if_neg (show ¬ i32 5 = (4 : Int32) by decide), if_pos (show i32 5 = (5 : Int32) from rfl), show (33 : Int32) = i32 33 from rfl]
        exact put 33 (i32 5) (by decide) (by decide) (fun z => by have := h5 z; omega)
      · rw [if_neg (show ¬ i32 6 = (0 : Int32) by decide), if_neg (show ¬ i32 6 = (1 : Int32) by decide), if_neg (show ¬ i32 6 = (2 : Int32) by decide), if_neg (show ¬ i32 6 = (3 : Int32) by decide), if_neg (show ¬ i32 6 = (4 : Int32) by decide), if_neg (show ¬ i32 6 = (5 : Int32) by decide), show (124 : Int32) = i32 124 from rfl]
        exact put 124 (i32 6) (by decide) (by decide) (fun z => by have := h5 z; omega)
    rw [sg_L_tapes_40, if_pos (by rw [i32_lt (by omega) (by omega)]; omega)]
    rcases h16 with q | q
    · rw [if_pos (show i32 cnt = (1 : Int32) by rw [q]; rfl), sg_L_tapes_66]
      obtain ⟨r, r1, r2⟩ := lw_some (79, e, mm_R0, I, J, A, B) (x4 >>> (((3 : Int32) * i32 i) &&& 31)) (k := 7) (by decide) (by decide)
      rw [show (7 : Int32) = i32 7 from rfl, r2, mm_aft_v]
      exact chs r r1 (fun z => by omega)
    · rw [if_neg (show ¬ i32 cnt = (1 : Int32) by rw [q]; decide), sg_L_tapes_66]
      obtain ⟨r, r1, r2⟩ := lw_some (79, e, mm_R0, I, J, A, B) (x4 >>> (((3 : Int32) * i32 i) &&& 31)) (k := 5) (by decide) (by decide)
      rw [show (5 : Int32) = i32 5 from rfl, r2, mm_aft_v]
      exact chs r (by omega) (fun z => r1)
/-- only the law's own row is another -/
theorem CSd.dr {I : Nat → Nat → Int32} {J : Nat → Nat → Int64} {A : Nat → Nat → Int32} {B : Nat → Nat → Int64} {A' : Nat → Nat → Int32} (h : CSd K R C lg m sw ea tk se pe us lo rc t tp pn ln tx n ra pl wo ls I J A B) (f : ∀ i, ¬ i = 78 → A' i = A i) : CSd K R C lg m sw ea tk se pe us lo rc t tp pn ln tx n ra pl wo ls I J A' B := h.low (fun _ _ => rfl) (fun _ _ => rfl) (fun i hi => f i (by omega)) (fun _ _ => rfl)
theorem CSd.dr2 {I : Nat → Nat → Int32} {J : Nat → Nat → Int64} {A : Nat → Nat → Int32} {B : Nat → Nat → Int64} {A' : Nat → Nat → Int32} (h : CSd K R C lg m sw ea tk se pe us lo rc t tp pn ln tx n ra pl wo ls (pI I) (pI J) (pI A) (pI B)) (f : ∀ i, ¬ i = 78 → A' i = A i) : CSd K R C lg m sw ea tk se pe us lo rc t tp pn ln tx n ra pl wo ls (pI I) (pI J) (pI A') (pI B) := h.low (fun _ _ => rfl) (fun _ _ => rfl) (fun i hi => by
  funext j
  unfold pI
  rw [f (pi i) (by unfold pi; split <;> (try split) <;> omega)]) (fun _ _ => rfl)
theorem i32_nl {a : Nat} (h : a < 2147483648) : ¬ i32 a < (-1 : Int32) := fun z => by
  have q := Int32.lt_iff_toInt_lt.1 z
  rw [i32_toInt h] at q
  have : (-1 : Int32).toInt = -1 := by decide
  omega
theorem mm_up_same (f : Nat → Nat → Int32) (k p : Nat) : mm_up f k p (f k p) = f := by
  funext i j
  unfold mm_up
  by_cases q : i = k
  · by_cases q2 : j = p
    · rw [if_pos q, if_pos q2, q, q2]
    · rw [if_pos q, if_neg q2]
  · rw [if_neg q]
theorem tape_end (e : Nat) (I : Nat → Nat → Int32) (J : Nat → Nat → Int64) (A : Nat → Nat → Int32) (B : Nat → Nat → Int64) (h1 : CSd K R C lg m sw ea tk se pe us lo rc t tp pn ln tx n ra pl wo ls I J A B) (h2 : CSd K R C lg m sw ea tk se pe us lo rc t tp pn ln tx n ra pl wo ls (pI I) (pI J) (pI A) (pI B)) (hY : YB t tp) (ht : t ≤ 30) (h4 : A 78 4 = i32 t) (x3 x4 x5 : Int32) (x6 : Int64) (x9 : Int32) (o : Option Value) {cnt : Nat} (hc : cnt ≤ 6) (h6 : t = 6 → cnt = 6 → scn tp t 0 0 = iN) : mm_run (mm_pr tb_L_tapes) (225, [some (.ref 0), some (.ref 39), some (.ref 78), some (.int x3), some (.int x4), some (.int x5), some (.long x6), none, some (.int (i32 cnt)), some (.int x9), o], [], (79, e, mm_R0, I, J, A, B)) = some (.inl (some (.int 1)), (79, e, mm_R0, I, J, A, B)) := by
  have f1 := qa_fault e I J A B h1 hY
  have f2 := qb_fault e I J A B h2 hY
  have a4 : A 78 ((4 : Int32)).toInt.toNat = i32 t := h4
  have n1 : ¬ scn tp t 0 0 < (-1 : Int32) ∧ ¬ i32 t < scn tp t 0 0 := by
    rcases scn_le tp t 0 0 with q | ⟨k, q, k1⟩
    · rw [q]
      exact ⟨by decide, i32_nl (by omega)⟩
    · rw [q]
      exact ⟨i32_nl (by omega), by rw [i32_lt (by omega) (by omega)]; omega⟩
  have fin : mm_run (mm_pr tb_L_tapes) (277, [some (.ref 0), some (.ref 39), some (.ref 78), some (.int x3), some (.int x4), some (.int x5), some (.long x6), none, some (.int (i32 cnt)), some (.int x9), o], [], (79, e, mm_R0, I, J, A, B)) = some (.inl (some (.int 1)), (79, e, mm_R0, I, J, A, B)) := by
    rw [sg_L_tapes_277, sg_L_tapes_282, if_pos (Or.inr rfl)]
  rw [sg_L_tapes_225, f1, mm_aft_v, sg_L_tapes_229, f2, mm_aft_v, sg_L_tapes_233, if_pos rfl, f1, mm_aft_v, sg_L_tapes_240, if_neg n1.1, f1, mm_aft_v, sg_L_tapes_248, a4, if_neg n1.2]
  by_cases q : i32 t = (6 : Int32)
  · rw [if_pos q]
    by_cases q2 : i32 cnt = (6 : Int32)
    · have e1 : t = 6 := (i32_eq (b := 6) (by omega) (by decide)).1 q
      have e2 : cnt = 6 := (i32_eq (b := 6) (by omega) (by decide)).1 q2
      rw [if_pos q2, f1, mm_aft_v, sg_L_tapes_273, if_pos (show scn tp t 0 0 = (-1 : Int32) from h6 e1 e2)]
      exact fin
    · rw [if_neg q2]
      exact fin
  · rw [if_neg q]
    exact fin
theorem tape_typ (e : Nat) (I : Nat → Nat → Int32) (J : Nat → Nat → Int64) (A : Nat → Nat → Int32) (B : Nat → Nat → Int64) (h : RWd K R C lg m sw ea tk se pe us lo rc t tp pn ln tx n ra pl wo ls c I J A B) (x3 x4 x5 : Int32) {cnt : Nat} (h16 : cnt = 1 ∨ cnt = 6) : ∃ e' I' J' A' B', mm_run (mm_pr tb_L_tapes) (40, [some (.ref 0), some (.ref 39), some (.ref 78), some (.int x3), some (.int x4), some (.int x5), some (.long (0 : Int64)), none, some (.int (i32 cnt)), some (.int (0 : Int32)), none], [], (79, e, mm_R0, I, J, A, B)) = some (.inl (some (.int 1)), (79, e', mm_R0, I', J', A', B')) ∧ RX c I' J' A' B' ∧ e' ≤ e + 2 := by
  obtain ⟨h1, h2, hD, hb⟩ := h
  have ht : t ≤ 30 := h1.2.2.2.1.2.1
  obtain ⟨x', o', k1, k2, k3⟩ := tape_in e I J A B x3 x4 x5 h16 cnt 0 0 none (by omega) (by rw [tn_0]; decide) (fun j hj => absurd hj (Nat.not_lt_zero _)) (fun _ j hj => absurd hj (Nat.not_lt_zero _))
  have ok := okS_of cnt k2
  have a4 : A 78 4 = i32 t := hD.2.2.2.2.1
  have i4 : 0 ≤ ((4 : Int32)).toInt ∧ ((4 : Int32)).toInt < 6 := by decide
  by_cases hl : t + cnt ≤ 30
  · have cal : Cal f_L_type [.long x', .int (i32 cnt)] (some (.int (i32 (t + cnt)))) (fun I J A B => CSd K R C lg m sw ea tk se pe us lo rc t tp pn ln tx n ra pl wo ls I J A B) (fun I J A B => CSd K R C lg m sw ea tk se pe us lo rc (t + cnt) (tpV tp t x' cnt) pn ln tx n ra pl wo ls I J A B) := fun e I J A B w => by
      obtain ⟨e', I', J', A', B', r1, r2, r3, r4⟩ := cx_type (x := x') (d := cnt) (by omega) (by omega) ok hl e I J A B w
      exact ⟨e', I', J', A', B', wl_type e I J A B x' _ r1, r2, r3, r4⟩
    obtain ⟨e1, I1, J1, A1, B1, r1, r2, r3, r4⟩ := cal e I J A B h1
    have s1 : A1 78 = A 78 := r3.2.2.1 78 (by decide)
    have a5 : A1 78 4 = i32 t := by rw [s1]; exact a4
    have w2 : CSd K R C lg m sw ea tk se pe us lo rc t tp pn ln tx n ra pl wo ls (pI I1) (pI J1) (pI A1) (pI B1) := h2.low (pI_hi r3.1) (pI_hi r3.2.1) (pI_hi r3.2.2.1) (pI_hi r3.2.2.2)
    have up : ∀ i, ¬ i = 78 → mm_up A1 78 4 (i32 t + i32 cnt) i = A1 i := fun i hi => mm_up_row A1 78 4 _ i hi
    obtain ⟨e2, I2, J2, A2, B2, q1, q2, q3, q4⟩ := cal.twin qf_L_type rfl rfl e1 I1 J1 (mm_up A1 78 4 (i32 t + i32 cnt)) B1 (w2.dr2 up)
    have o2 : CSd K R C lg m sw ea tk se pe us lo rc (t + cnt) (tpV tp t x' cnt) pn ln tx n ra pl wo ls I2 J2 A2 B2 := (r2.dr up).low (fun i hi => q3.1 i (Or.inl hi)) (fun i hi => q3.2.1 i (Or.inl hi)) (fun i hi => q3.2.2.1 i (Or.inl hi)) (fun i hi => q3.2.2.2 i (Or.inl hi))
    have s2 : A2 78 = mm_up A1 78 4 (i32 t + i32 cnt) 78 := q3.2.2.1 78 (Or.inr (Nat.le_refl _))
    have a6 : A2 78 4 = i32 (t + cnt) := by rw [s2, mm_up_eq, i32_add]
    have a7 : ∀ p, ¬ p = 4 → A2 78 p = A 78 p := fun p hp => by rw [s2, mm_up_ne2 _ _ _ _ _ _ hp, s1]
    have D2 : DRd K R C lg m sw ea tk se pe us lo rc (t + cnt) (tpV tp t x' cnt) pn ln tx n ra pl wo ls A2 := ⟨by rw [a7 0 (by decide)]; exact hD.1, by rw [a7 1 (by decide)]; exact hD.2.1, by rw [a7 2 (by decide)]; exact hD.2.2.1, by rw [a7 3 (by decide)]; exact hD.2.2.2.1, a6, by rw [a7 5 (by decide)]; exact hD.2.2.2.2.2⟩
    obtain ⟨b1, b2, b3, b4, b5⟩ := hb
    have Y2 : YB (t + cnt) (tpV tp t x' cnt) := b3.type ok
    refine ⟨e2, I2, J2, A2, B2, ?_, RWd.rx _ _ _ _ ⟨o2, q2, D2, b1, b2, Y2, b4, b5⟩, by omega⟩
    have te := tape_end e2 I2 J2 A2 B2 o2 q2 Y2 hl a6 x3 x4 x5 x' (i32 (t + cnt)) o' (cnt := cnt) (by omega) (fun z1 z2 => by
      have t0 : t = 0 := by omega
      subst t0
      refine scn_tol (0 + cnt) 0 0 (by omega) (fun j _ hj => ?_)
      unfold tpV
      rw [if_pos (by omega)]
      exact k3 z2 _ (by omega))
    have bn := big_ne (a := t + cnt) (by omega)
    refine Eq.trans k1 ?_
    rw [r1, mm_aft_v, sg_L_tapes_164, if_neg (show ¬ i32 (t + cnt) < 0 by rw [show (0 : Int32) = i32 0 from rfl, i32_lt (by omega) (by decide)]; omega), sg_L_tapes_181, if_pos i4, show ((4 : Int32)).toInt.toNat = 4 from rfl, a5, q1, mm_aft_v, sg_L_tapes_193, if_pos rfl, if_neg bn.2.1, show ((4 : Int32)).toInt.toNat = 4 from rfl, a6, if_pos rfl]
    exact te
  · have cal : Cal f_L_type [.long x', .int (i32 cnt)] (some (.int (-2000000003 : Int32))) (fun I J A B => CSd K R C lg m sw ea tk se pe us lo rc t tp pn ln tx n ra pl wo ls I J A B) (fun I J A B => CSd K R C lg m sw ea tk se pe us lo rc t tp pn ln tx n ra pl wo ls I J A B) := Cal.no (fun e I J A B w => wx_type_3 e I J A B x' _ (cC_type_2 e I J A B w.2.2.2.1 (x := x') (c := cnt) (by omega) (by omega) ok (by omega)))
    obtain ⟨e1, I1, J1, A1, B1, r1, r2, r3, r4⟩ := cal e I J A B h1
    have s1 : A1 78 = A 78 := r3.2.2.1 78 (by decide)
    have a5 : A1 78 4 = i32 t := by rw [s1]; exact a4
    have w2 : CSd K R C lg m sw ea tk se pe us lo rc t tp pn ln tx n ra pl wo ls (pI I1) (pI J1) (pI A1) (pI B1) := h2.low (pI_hi r3.1) (pI_hi r3.2.1) (pI_hi r3.2.2.1) (pI_hi r3.2.2.2)
    have same : mm_up A1 78 4 (i32 t + (0 : Int32)) = A1 := by
      rw [Int32.add_zero, ← a5, mm_up_same]
    obtain ⟨e2, I2, J2, A2, B2, q1, q2, q3, q4⟩ := cal.twin qf_L_type rfl rfl e1 I1 J1 A1 B1 w2
    have o2 : CSd K R C lg m sw ea tk se pe us lo rc t tp pn ln tx n ra pl wo ls I2 J2 A2 B2 := r2.low (fun i hi => q3.1 i (Or.inl hi)) (fun i hi => q3.2.1 i (Or.inl hi)) (fun i hi => q3.2.2.1 i (Or.inl hi)) (fun i hi => q3.2.2.2 i (Or.inl hi))
    have s2 : A2 78 = A 78 := by rw [q3.2.2.1 78 (Or.inr (Nat.le_refl _)), s1]
    have a6 : A2 78 4 = i32 t := by rw [s2]; exact a4
    refine ⟨e2, I2, J2, A2, B2, ?_, RWd.rx _ _ _ _ ⟨o2, q2, hD.co s2, hb⟩, by omega⟩
    have te := tape_end e2 I2 J2 A2 B2 o2 q2 hb.2.2.1 ht a6 x3 x4 x5 x' (-2000000003 : Int32) o' (cnt := cnt) (by omega) (fun z1 z2 => by omega)
    refine Eq.trans k1 ?_
    rw [r1, mm_aft_v, sg_L_tapes_164, if_pos (show (-2000000003 : Int32) < 0 by decide), sg_L_tapes_181, if_pos i4, show ((4 : Int32)).toInt.toNat = 4 from rfl, a5, same, q1, mm_aft_v, sg_L_tapes_193, if_pos rfl, if_pos rfl, show ((4 : Int32)).toInt.toNat = 4 from rfl, a6, i32_add, show (30 : Int32) = i32 30 from rfl, if_pos (show i32 30 < i32 (t + cnt) by rw [i32_lt (by decide) (by omega)]; omega)]
    exact te
/-- the strip kept as a pattern, as the law asks for it -/
theorem bo_pattern (hb : BXd K R C lg m sw ea tk se pe us lo rc t tp pn ln tx n ra pl wo ls c) (hq : pn ≤ 6) (ht : t ≤ 30) (y3 y4 y5 y6 : Int32) : (¬ scn tp t 0 0 = iN ∧ Cal f_L_call [.int (15 : Int32), .int y3, .int y4, .int y5, .int y6] (some (.int (-2000000002 : Int32))) (fun I J A B => CSd K R C lg m sw ea tk se pe us lo rc t tp pn ln tx n ra pl wo ls I J A B) (fun I J A B => CSd K R C lg m sw ea tk se pe us lo rc t tp pn ln tx n ra pl wo ls I J A B)) ∨ (scn tp t 0 0 = iN ∧ pn = 6 ∧ Cal f_L_call [.int (15 : Int32), .int y3, .int y4, .int y5, .int y6] (some (.int (-2000000003 : Int32))) (fun I J A B => CSd K R C lg m sw ea tk se pe us lo rc t tp pn ln tx n ra pl wo ls I J A B) (fun I J A B => CSd K R C lg m sw ea tk se pe us lo rc t tp pn ln tx n ra pl wo ls I J A B)) ∨ (scn tp t 0 0 = iN ∧ pn < 6 ∧ Cal f_L_call [.int (15 : Int32), .int y3, .int y4, .int y5, .int y6] (some (.int (i32 pn))) (fun I J A B => CSd K R C lg m sw ea tk se pe us lo rc t tp pn ln tx n ra pl wo ls I J A B) (fun I J A B => CSd K R C lg m sw ea tk se pe us lo rc 0 tp (pn + 1) (upN ln pn t) (txV tx pn tp) n ra pl wo ls I J A B)) := by
  have hY := hb.2.2.1
  by_cases hs : scn tp t 0 0 = iN
  · by_cases hn : pn < 6
    · refine Or.inr (Or.inr ⟨hs, hn, fun e I J A B w => ?_⟩)
      obtain ⟨e', I', J', A', B', r1, r2, r3, r4⟩ := cx_pattern hY hb.2.2.2.1 hn hs e I J A B w
      exact ⟨e', I', J', A', B', wl_pattern e I J A B _ _ _ _ r1, r2, r3, r4⟩
    · exact Or.inr (Or.inl ⟨hs, by omega, Cal.no (fun e I J A B w => wx_pattern_3 e I J A B _ _ _ _ (cC_pattern_2 e I J A B w.2.2.2.1 hY w.2.2.2.2.1 hs hn))⟩)
  · exact Or.inl ⟨hs, Cal.no (fun e I J A B w => wx_pattern_2 e I J A B _ _ _ _ (cC_pattern_1 e I J A B w.2.2.2.1 hY hs))⟩
theorem lw_tapes (e : Nat) (I : Nat → Nat → Int32) (J : Nat → Nat → Int64) (A : Nat → Nat → Int32) (B : Nat → Nat → Int64) (h : RWd K R C lg m sw ea tk se pe us lo rc t tp pn ln tx n ra pl wo ls c I J A B) (x3 x4 : Int32) : LStp f_L_tapes [.ref 0, .ref 39, .ref 78, .int x3, .int x4] c c 2 e I J A B := by
  obtain ⟨r, r1, r2⟩ := lw_some (79, e, mm_R0, I, J, A, B) x3 (k := 8) (by decide) (by decide)
  have hb := h.2.2.2
  have hD := h.2.2.1
  have w := hb.1
  have hq : pn ≤ 6 := h.1.2.2.2.2.1.2.1
  have ht : t ≤ 30 := h.1.2.2.2.1.2.1
  have i4 : 0 ≤ ((4 : Int32)).toInt ∧ ((4 : Int32)).toInt < 6 := by decide
  have i1 : 0 ≤ ((1 : Int32)).toInt ∧ ((1 : Int32)).toInt < 6 := by decide
  have n4 : ((4 : Int32)).toInt.toNat = 4 := rfl
  have n1 : ((1 : Int32)).toInt.toNat = 1 := rfl
  unfold LStp
  rw [en_L_tapes, sg_L_tapes_0, show (8 : Int32) = i32 8 from rfl, r2, mm_aft_v, sg_L_tapes_6]
  by_cases z5 : r < 5
  · rw [if_pos (show i32 r < (5 : Int32) by rw [show (5 : Int32) = i32 5 from rfl, i32_lt (by omega) (by decide)]; omega)]
    have one : ∃ e' I' J' A' B', mm_run (mm_pr tb_L_tapes) (34, [some (.ref 0), some (.ref 39), some (.ref 78), some (.int x3), some (.int x4), some (.int (i32 r)), some (.long (0 : Int64)), none, none, none, none], [], (79, e, mm_R0, I, J, A, B)) = some (.inl (some (.int 1)), (79, e', mm_R0, I', J', A', B')) ∧ RX c I' J' A' B' ∧ e' ≤ e + 2 := by
      rw [sg_L_tapes_34, sg_L_tapes_35]
      exact tape_typ e I J A B h x3 x4 (i32 r) (cnt := 1) (Or.inl rfl)
    by_cases z4 : i32 r < (4 : Int32)
    · rw [if_pos z4]
      by_cases z0 : A 78 ((4 : Int32)).toInt.toNat = 0
      · rw [if_pos z0, sg_L_tapes_35]
        exact tape_typ e I J A B h x3 x4 (i32 r) (cnt := 6) (Or.inr rfl)
      · rw [if_neg z0]
        exact one
    · rw [if_neg z4]
      exact one
  · rw [if_neg (show ¬ i32 r < (5 : Int32) by rw [show (5 : Int32) = i32 5 from rfl, i32_lt (by omega) (by decide)]; omega)]
    by_cases z7 : r < 7
    · rw [if_pos (show i32 r < (7 : Int32) by rw [show (7 : Int32) = i32 7 from rfl, i32_lt (by omega) (by decide)]; omega), qa_fault e I J A B h.1 hb.2.2.1, mm_aft_v, sg_L_tapes_294]
      have bo := bo_pattern hb hq ht 0 0 0 0
      rcases bo with ⟨k1, k2⟩ | ⟨k1, k3, k2⟩ | ⟨k1, k3, k2⟩
      · obtain ⟨e', I', J', A', B', q1, q2, q3, q4, q5⟩ := both_of k2 (CSd.lowP _ _ _ _ _ _ _ _ _ _ _ _ _ _ _ _ _ _ _ _ _ _ _) (CSd.lowP _ _ _ _ _ _ _ _ _ _ _ _ _ _ _ _ _ _ _ _ _ _ _) e I J A B h.1 h.2.1
        refine ⟨e', I', J', A', B', ?_, RWd.rx _ _ _ _ ⟨q2, q3, hD.co q4, hb⟩, by omega⟩
        rw [q1, mm_aft_v, sg_L_tapes_307, if_pos (show (-2000000002 : Int32) < 0 by decide), sg_L_tapes_323, if_pos i4, n4, mm_up_same, if_pos (show (-2000000002 : Int32) < 0 by decide), sg_L_tapes_338, if_pos i1, n1, Int32.add_zero, mm_up_same, if_pos rfl, if_neg (show ¬ scn tp t 0 0 = (-1 : Int32) from k1), sg_L_tapes_436, if_pos (Or.inr rfl)]
      · obtain ⟨e', I', J', A', B', q1, q2, q3, q4, q5⟩ := both_of k2 (CSd.lowP _ _ _ _ _ _ _ _ _ _ _ _ _ _ _ _ _ _ _ _ _ _ _) (CSd.lowP _ _ _ _ _ _ _ _ _ _ _ _ _ _ _ _ _ _ _ _ _ _ _) e I J A B h.1 h.2.1
        refine ⟨e', I', J', A', B', ?_, RWd.rx _ _ _ _ ⟨q2, q3, hD.co q4, hb⟩, by omega⟩
        have p6 : A' 78 1 = (6 : Int32) := by rw [q4, hD.2.1, k3]; rfl
        rw [q1, mm_aft_v, sg_L_tapes_307, if_pos (show (-2000000003 : Int32) < 0 by decide), sg_L_tapes_323, if_pos i4, n4, mm_up_same, if_pos (show (-2000000003 : Int32) < 0 by decide), sg_L_tapes_338, if_pos i1, n1, Int32.add_zero, mm_up_same, if_neg (show ¬ (-2000000003 : Int32) = (-2000000002 : Int32) by decide), if_pos rfl, if_pos (show scn tp t 0 0 = (-1 : Int32) from k1), if_pos p6, sg_L_tapes_436, if_pos (Or.inr rfl)]
      · obtain ⟨e', I', J', A', B', q1, q2, q3, q4, q5⟩ := both_of k2 (CSd.lowP _ _ _ _ _ _ _ _ _ _ _ _ _ _ _ _ _ _ _ _ _ _ _) (CSd.lowP _ _ _ _ _ _ _ _ _ _ _ _ _ _ _ _ _ _ _ _ _ _ _) e I J A B h.1 h.2.1
        have d1 : A' 78 1 = i32 pn := by rw [q4]; exact hD.2.1
        have bn := big_ne (a := pn) (by omega)
        have up : ∀ i, ¬ i = 78 → mm_up (mm_up A' 78 4 (0 : Int32)) 78 1 (i32 pn + (1 : Int32)) i = A' i := fun i hi => by rw [mm_up_row _ _ _ _ _ hi, mm_up_row _ _ _ _ _ hi]
        have D1 : mm_up A' 78 4 (0 : Int32) 78 1 = i32 pn := by rw [mm_up_ne2 _ _ _ _ _ _ (by decide)]; exact d1
        have c2 := q2.dr up
        have c3 := q3.dr2 up
        have PK := hb.2.2.2.1.keep ht k1
        have hb' : BXd K R C lg m sw ea tk se pe us lo rc 0 tp (pn + 1) (upN ln pn t) (txV tx pn tp) n ra pl wo ls c := ⟨hb.1, hb.2.1, YB.zero, PK, hb.2.2.2.2⟩
        have g : ∀ p, ¬ p = 4 → ¬ p = 1 → mm_up (mm_up A' 78 4 (0 : Int32)) 78 1 (i32 pn + (1 : Int32)) 78 p = A 78 p := fun p x1 x2 => by rw [mm_up_ne2 _ _ _ _ _ _ x2, mm_up_ne2 _ _ _ _ _ _ x1, q4]
        have u1 : mm_up (mm_up A' 78 4 (0 : Int32)) 78 1 (i32 pn + (1 : Int32)) 78 1 = i32 pn + (1 : Int32) := mm_up_eq _ _ _ _
        have D2 : DRd K R C lg m sw ea tk se pe us lo rc 0 tp (pn + 1) (upN ln pn t) (txV tx pn tp) n ra pl wo ls (mm_up (mm_up A' 78 4 (0 : Int32)) 78 1 (i32 pn + (1 : Int32))) := ⟨by rw [g 0 (by decide) (by decide)]; exact hD.1, by rw [u1]; exact i32_add pn 1, by rw [g 2 (by decide) (by decide)]; exact hD.2.2.1, by rw [g 3 (by decide) (by decide)]; exact hD.2.2.2.1, by rw [mm_up_ne2 _ _ _ _ _ _ (by decide), mm_up_eq]; rfl, by rw [g 5 (by decide) (by decide)]; exact hD.2.2.2.2.2⟩
        refine ⟨e', I', J', _, B', ?_, RWd.rx _ _ _ _ ⟨c2, c3, D2, hb'⟩, by omega⟩
        have ff := qa_fault e' I' J' _ B' c2 YB.zero
        have f3 : f_X10_fits [.ref 0, .int (i32 pn), .int (0 : Int32)] (79, e', mm_R0, I', J', mm_up (mm_up A' 78 4 (0 : Int32)) 78 1 (i32 pn + (1 : Int32)), B') = _ := qa_fits e' I' J' _ B' c2 (p := 0) (q := pn) (by decide) (by omega)
        have f4 : f_X10_fitsAnew [.ref 0, .int (i32 pn), .int (0 : Int32)] (79, e', mm_R0, I', J', mm_up (mm_up A' 78 4 (0 : Int32)) 78 1 (i32 pn + (1 : Int32)), B') = _ := qa_anew e' I' J' _ B' c2 PK (p := 0) (q := pn) (by decide) (by omega)
        have lt0 : ¬ i32 pn < (0 : Int32) := by rw [show (0 : Int32) = i32 0 from rfl, i32_lt (by omega) (by decide)]; omega
        rw [q1, mm_aft_v, sg_L_tapes_307, if_neg lt0, sg_L_tapes_323, if_pos i4, n4, if_neg lt0, sg_L_tapes_338, if_pos i1, n1, D1, if_neg bn.1, if_neg bn.2.1, if_pos (show scn tp t 0 0 = (-1 : Int32) from k1), u1, show i32 pn + (1 : Int32) - (1 : Int32) = i32 pn by rw [show (1 : Int32) = i32 1 from rfl, i32_add, i32_sub (by omega)]; rfl, if_pos rfl, ff, mm_aft_v, sg_L_tapes_410, if_pos (show scn tp 0 0 0 = (0 : Int32) from rfl), f3, mm_aft_v, sg_L_tapes_420, f4, mm_aft_v, sg_L_tapes_427, if_pos rfl, sg_L_tapes_436, if_pos (Or.inr rfl)]
    · rw [if_neg (show ¬ i32 r < (7 : Int32) by rw [show (7 : Int32) = i32 7 from rfl, i32_lt (by omega) (by decide)]; omega)]
      have k2 : Cal f_L_call [.int (13 : Int32), .int (0 : Int32), .int (0 : Int32), .int (0 : Int32), .int (0 : Int32)] (some (.int (i32 t))) (fun I J A B => CSd K R C lg m sw ea tk se pe us lo rc t tp pn ln tx n ra pl wo ls I J A B) (fun I J A B => CSd K R C lg m sw ea tk se pe us lo rc 0 tp pn ln tx n ra pl wo ls I J A B) := fun e I J A B w => by
        obtain ⟨e', I', J', A', B', r1, r2, r3, r4⟩ := cx_wipe e I J A B w
        exact ⟨e', I', J', A', B', wl_wipe e I J A B _ _ _ _ r1, r2, r3, r4⟩
      have up : ∀ i, ¬ i = 78 → mm_up A 78 ((4 : Int32)).toInt.toNat (0 : Int32) i = A i := fun i hi => mm_up_row _ _ _ _ _ hi
      obtain ⟨e', I', J', A', B', q1, q2, q3, q4, q5⟩ := both_of k2 (CSd.lowP _ _ _ _ _ _ _ _ _ _ _ _ _ _ _ _ _ _ _ _ _ _ _) (CSd.lowP _ _ _ _ _ _ _ _ _ _ _ _ _ _ _ _ _ _ _ _ _ _ _) e I J (mm_up A 78 ((4 : Int32)).toInt.toNat (0 : Int32)) B (h.1.dr up) (h.2.1.dr2 up)
      have g : ∀ p, ¬ p = 4 → A' 78 p = A 78 p := fun p x1 => by rw [q4, n4, mm_up_ne2 _ _ _ _ _ _ x1]
      have D2 : DRd K R C lg m sw ea tk se pe us lo rc 0 tp pn ln tx n ra pl wo ls A' := ⟨by rw [g 0 (by decide)]; exact hD.1, by rw [g 1 (by decide)]; exact hD.2.1, by rw [g 2 (by decide)]; exact hD.2.2.1, by rw [g 3 (by decide)]; exact hD.2.2.2.1, by rw [q4, n4, mm_up_eq]; rfl, by rw [g 5 (by decide)]; exact hD.2.2.2.2.2⟩
      have hb' : BXd K R C lg m sw ea tk se pe us lo rc 0 tp pn ln tx n ra pl wo ls c := ⟨hb.1, hb.2.1, YB.zero, hb.2.2.2⟩
      refine ⟨e', I', J', A', B', ?_, RWd.rx _ _ _ _ ⟨q2, q3, D2, hb'⟩, by omega⟩
      have ff := qa_fault e' I' J' A' B' q2 YB.zero
      have a4 : A 78 ((4 : Int32)).toInt.toNat = i32 t := hD.2.2.2.2.1
      rw [a4, q1, mm_aft_v, sg_L_tapes_457, if_pos rfl, ff, mm_aft_v, sg_L_tapes_466, if_pos (show scn tp 0 0 0 = (0 : Int32) from rfl), sg_L_tapes_474, if_pos (Or.inr rfl)]
end
