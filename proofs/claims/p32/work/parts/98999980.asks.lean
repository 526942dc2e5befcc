/-! the law's own row, both objects and what is true of their words; questions that leave all as it is -/
def DRd (K R C : Nat) (lg : Nat → Nat) (m : Nat) (sw : Bool) (ea : Nat) (tk : Bool) (se pe us : Nat → Nat) (lo : Nat) (rc : Bool) (t : Nat) (tp : Nat → Nat) (pn : Nat) (ln : Nat → Nat) (tx : Nat → Nat → Nat) (n : Nat) (ra : Nat → Int) (pl wo ls : Nat → Nat) (A : Nat → Nat → Int32) : Prop := A 78 0 = i32 (bN K R C) ∧ A 78 1 = i32 pn ∧ A 78 2 = i32 n ∧ A 78 3 = i32 K ∧ A 78 4 = i32 t ∧ A 78 5 = bi tk
abbrev RWd (K R C : Nat) (lg : Nat → Nat) (m : Nat) (sw : Bool) (ea : Nat) (tk : Bool) (se pe us : Nat → Nat) (lo : Nat) (rc : Bool) (t : Nat) (tp : Nat → Nat) (pn : Nat) (ln : Nat → Nat) (tx : Nat → Nat → Nat) (n : Nat) (ra : Nat → Int) (pl wo ls : Nat → Nat) (c : Nat) (I : Nat → Nat → Int32) (J : Nat → Nat → Int64) (A : Nat → Nat → Int32) (B : Nat → Nat → Int64) : Prop := CSd K R C lg m sw ea tk se pe us lo rc t tp pn ln tx n ra pl wo ls I J A B ∧ CSd K R C lg m sw ea tk se pe us lo rc t tp pn ln tx n ra pl wo ls (pI I) (pI J) (pI A) (pI B) ∧ DRd K R C lg m sw ea tk se pe us lo rc t tp pn ln tx n ra pl wo ls A ∧ BXd K R C lg m sw ea tk se pe us lo rc t tp pn ln tx n ra pl wo ls c
def RX (c : Nat) (I : Nat → Nat → Int32) (J : Nat → Nat → Int64) (A : Nat → Nat → Int32) (B : Nat → Nat → Int64) : Prop := ∃ K R C lg m sw ea tk se pe us lo rc t tp pn ln tx n ra pl wo ls, RWd K R C lg m sw ea tk se pe us lo rc t tp pn ln tx n ra pl wo ls c I J A B
/-- a step of the law: it answers 1, and all stands again -/
def LStp (f : mm_F) (as : List Value) (c c' ee : Nat) (e : Nat) (I : Nat → Nat → Int32) (J : Nat → Nat → Int64) (A : Nat → Nat → Int32) (B : Nat → Nat → Int64) : Prop := ∃ e' I' J' A' B', f as (79, e, mm_R0, I, J, A, B) = some (.inl (some (.int 1)), (79, e', mm_R0, I', J', A', B')) ∧ RX c' I' J' A' B' ∧ e' ≤ e + ee
section
variable {K R C : Nat} {lg : Nat → Nat} {m : Nat} {sw : Bool} {ea : Nat} {tk : Bool} {se pe us : Nat → Nat} {lo : Nat} {rc : Bool} {t : Nat} {tp : Nat → Nat} {pn : Nat} {ln : Nat → Nat} {tx : Nat → Nat → Nat} {n : Nat} {ra : Nat → Int} {pl wo ls : Nat → Nat} {c : Nat}
theorem DRd.co {A A' : Nat → Nat → Int32} (h : DRd K R C lg m sw ea tk se pe us lo rc t tp pn ln tx n ra pl wo ls A) (e : A' 78 = A 78) : DRd K R C lg m sw ea tk se pe us lo rc t tp pn ln tx n ra pl wo ls A' := by
  unfold DRd at h ⊢
  rw [e]; exact h
theorem DRd.pi {A : Nat → Nat → Int32} (h : DRd K R C lg m sw ea tk se pe us lo rc t tp pn ln tx n ra pl wo ls A) : DRd K R C lg m sw ea tk se pe us lo rc t tp pn ln tx n ra pl wo ls (pI A) := h
theorem DRd.sa {A : Nat → Nat → Int32} {lg' : Nat → Nat} {m' : Nat} {sw' : Bool} {ea' : Nat} {se' pe' us' : Nat → Nat} {lo' : Nat} {rc' : Bool} {tp' ln' : Nat → Nat} {tx' : Nat → Nat → Nat} {ra' : Nat → Int} {pl' wo' ls' : Nat → Nat} (h : DRd K R C lg m sw ea tk se pe us lo rc t tp pn ln tx n ra pl wo ls A) : DRd K R C lg' m' sw' ea' tk se' pe' us' lo' rc' t tp' pn ln' tx' n ra' pl' wo' ls' A := h
end
theorem lw_some (S : mm_S) (x : Int32) {k : Nat} (h0 : 0 < k) (hk : k < 2147483648) : ∃ r, r < k ∧ f_L_some [.int x, .int (i32 k)] S = some (.inl (some (.int (i32 r))), S) := by
  have e : (x.toUInt32 >>> ((1 : Int32).toUInt32 &&& Int32.toUInt32 31)).toInt32 = i32 (x.toUInt32.toNat / 2) := by
    have e1 : ((1 : Int32).toUInt32 &&& Int32.toUInt32 31) = (1 : UInt32) := by decide
    have e2 : ∀ y : UInt32, y.toInt32 = i32 y.toNat := fun y => by
      apply Int32.toBitVec_inj.1
      show y.toBitVec = BitVec.ofNat 32 y.toNat
      rw [← UInt32.toNat_toBitVec, BitVec.ofNat_toNat, BitVec.setWidth_eq]
    rw [e1, e2, UInt32.toNat_shiftRight]
    show i32 (x.toUInt32.toNat >>> 1) = _
    rw [Nat.shiftRight_eq_div_pow]
  have lt : x.toUInt32.toNat / 2 < 2147483648 := by
    have := x.toUInt32.toNat_lt
    omega
  refine ⟨x.toUInt32.toNat / 2 % k, Nat.mod_lt _ h0, ?_⟩
  rw [en_L_some, sg_L_some_0, if_neg (show ¬ i32 k = 0 by rw [show (0 : Int32) = i32 0 from rfl, i32_eq hk (by decide)]; omega), e, i32_mod lt hk h0]
theorem lw_has (S : mm_S) (x : Int64) {k : Nat} (hk : k < 64) : f_L_has [.long x, .int (i32 k)] S = some (.inl (some (.int (bi (mb x k)))), S) := by
  rw [en_L_has, sg_L_has_0, mb_has x k hk]
  cases q : mb x k with
  | true => rw [if_pos (by rfl), sg_L_has_15, if_pos (Or.inr rfl)]; rfl
  | false => rw [if_neg (by decide), sg_L_has_15, if_pos (Or.inl rfl)]; rfl
section
variable {K R C : Nat} {lg : Nat → Nat} {m : Nat} {sw : Bool} {ea : Nat} {tk : Bool} {se pe us : Nat → Nat} {lo : Nat} {rc : Bool} {t : Nat} {tp : Nat → Nat} {pn : Nat} {ln : Nat → Nat} {tx : Nat → Nat → Nat} {n : Nat} {ra : Nat → Int} {pl wo ls : Nat → Nat} {c : Nat} (e : Nat) (I : Nat → Nat → Int32) (J : Nat → Nat → Int64) (A : Nat → Nat → Int32) (B : Nat → Nat → Int64)
theorem qa_told (hc : CSd K R C lg m sw ea tk se pe us lo rc t tp pn ln tx n ra pl wo ls I J A B) (w : WG K R C lg m sw) (hl : lo ≤ 2) {v : Nat} (hv : v ≤ 6) : f_X10_told [.ref 0, .int (i32 v)] (79, e, mm_R0, I, J, A, B) = some (.inl (some (.int (tdV K R C lg m sw lo v))), (79, e, mm_R0, I, J, A, B)) := cC_told e I J A B hc.1 w hc.2.1 hl hv
theorem qa_cell (hc : CSd K R C lg m sw ea tk se pe us lo rc t tp pn ln tx n ra pl wo ls I J A B) (w : WG K R C lg m sw) {d v : Nat} (hd : d < bN K R C) (hv : v ≤ 6) : f_X10_cell [.ref 0, .int (i32 d), .int (i32 v)] (79, e, mm_R0, I, J, A, B) = some (.inl (some (.int (clV K R C lg m sw d v))), (79, e, mm_R0, I, J, A, B)) := cC_cell e I J A B hc.1 w hd hv
theorem qa_clock (hc : CSd K R C lg m sw ea tk se pe us lo rc t tp pn ln tx n ra pl wo ls I J A B) {p v : Nat} (hp : p < 2) (hv : v ≤ 2) : f_X10_clock [.ref 0, .int (i32 p), .int (i32 v)] (79, e, mm_R0, I, J, A, B) = some (.inl (some (.int (if v = 0 then i32 (se p) else if v = 1 then i32 (pe p) else i32 (us p)))), (79, e, mm_R0, I, J, A, B)) := cC_clock e I J A B hc.2.1 hp hv
theorem qa_ofP (hc : CSd K R C lg m sw ea tk se pe us lo rc t tp pn ln tx n ra pl wo ls I J A B) {p v : Nat} (hp : p < n) (hv : v ≤ 3) : f_X10_ofPerson [.ref 0, .int (i32 p), .int (i32 v)] (79, e, mm_R0, I, J, A, B) = some (.inl (some (.int (shV ra pl wo ls p v))), (79, e, mm_R0, I, J, A, B)) := cC_ofPerson e I J A B hc.2.2.2.2.2.2 hp hv
theorem qa_fits (hc : CSd K R C lg m sw ea tk se pe us lo rc t tp pn ln tx n ra pl wo ls I J A B) {p q : Nat} (hp : p < 2) (hq : q < pn) : f_X10_fits [.ref 0, .int (i32 q), .int (i32 p)] (79, e, mm_R0, I, J, A, B) = some (.inl (some (.long (fitW K R C (tx q) (ln q) (sN lg m sw p) (sN lg m sw (1 - p)) (emp (bN K R C) (sN lg m sw 0) (sN lg m sw 1))))), (79, e, mm_R0, I, J, A, B)) := cC_fits e I J A B hc.1 hc.2.2.2.2.1 hc.2.2.2.2.2.1 hp hq
theorem qa_anew (hc : CSd K R C lg m sw ea tk se pe us lo rc t tp pn ln tx n ra pl wo ls I J A B) (hB : PB pn ln tx) {p q : Nat} (hp : p < 2) (hq : q < pn) : f_X10_fitsAnew [.ref 0, .int (i32 q), .int (i32 p)] (79, e, mm_R0, I, J, A, B) = some (.inl (some (.long (fitW K R C (tx q) (ln q) (sN lg m sw p) (sN lg m sw (1 - p)) (emp (bN K R C) (sN lg m sw 0) (sN lg m sw 1))))), (79, e, mm_R0, I, J, A, B)) := cC_fitsAnew e I J A B hc.1 hc.2.2.2.2.1 hB hp hq
theorem qa_fault (hc : CSd K R C lg m sw ea tk se pe us lo rc t tp pn ln tx n ra pl wo ls I J A B) (hY : YB t tp) : f_X10_fault [.ref 0] (79, e, mm_R0, I, J, A, B) = some (.inl (some (.int (scn tp t 0 0))), (79, e, mm_R0, I, J, A, B)) := cC_fault e I J A B hc.2.2.2.1 hY
/-- the same of the other one -/
theorem qb_fault (hc : CSd K R C lg m sw ea tk se pe us lo rc t tp pn ln tx n ra pl wo ls (pI I) (pI J) (pI A) (pI B)) (hY : YB t tp) : f_X10_fault [.ref 39] (79, e, mm_R0, I, J, A, B) = some (.inl (some (.int (scn tp t 0 0))), (79, e, mm_R0, I, J, A, B)) := by
  have h := sw_of qf_X10_fault (qa_fault e (pI I) (pI J) (pI A) (pI B) hc hY)
  rw [pI_pI, pI_pI, pI_pI, pI_pI] at h
  exact h
end
/-- n steps from i on -/
def itN (g : Nat → Int64 → Int64) : Nat → Nat → Int64 → Int64
  | 0, _, h => h
  | d + 1, i, h => itN g d (i + 1) (g i h)
/-- the number that all answers are made to -/
noncomputable def hV (K R C : Nat) (lg : Nat → Nat) (m : Nat) (sw : Bool) (ea : Nat) (tk : Bool) (se pe us : Nat → Nat) (lo : Nat) (rc : Bool) (t : Nat) (tp : Nat → Nat) (pn : Nat) (ln : Nat → Nat) (tx : Nat → Nat → Nat) (n : Nat) (ra : Nat → Int) (pl wo ls : Nat → Nat) : Int64 :=
  itN (fun v h => (h * (1009 : Int64) + (if v = 0 then i32 (se 0) else if v = 1 then i32 (pe 0) else i32 (us 0)).toInt64) * (1009 : Int64) + (if v = 0 then i32 (se 1) else if v = 1 then i32 (pe 1) else i32 (us 1)).toInt64) 3 0
    (itN (fun p h => itN (fun v h => h * (1009 : Int64) + (shV ra pl wo ls p v).toInt64) 4 0 h) n 0
      (itN (fun q h => (h * (1009 : Int64) + fitW K R C (tx q) (ln q) (sN lg m sw 0) (sN lg m sw 1) (emp (bN K R C) (sN lg m sw 0) (sN lg m sw 1))) * (1009 : Int64) + fitW K R C (tx q) (ln q) (sN lg m sw 1) (sN lg m sw 0) (emp (bN K R C) (sN lg m sw 0) (sN lg m sw 1))) pn 0
        (itN (fun d h => itN (fun v h => h * (127 : Int64) + (clV K R C lg m sw d v).toInt64) 7 0 h) (bN K R C) 0
          (itN (fun v h => h * (127 : Int64) + (tdV K R C lg m sw lo v).toInt64) 7 0 (17 : Int64))))) * (127 : Int64) + (scn tp t 0 0).toInt64
section
variable {K R C : Nat} {lg : Nat → Nat} {m : Nat} {sw : Bool} {ea : Nat} {tk : Bool} {se pe us : Nat → Nat} {lo : Nat} {rc : Bool} {t : Nat} {tp : Nat → Nat} {pn : Nat} {ln : Nat → Nat} {tx : Nat → Nat → Nat} {n : Nat} {ra : Nat → Int} {pl wo ls : Nat → Nat} {c : Nat} (e : Nat) (I : Nat → Nat → Int32) (J : Nat → Nat → Int64) (A : Nat → Nat → Int32) (B : Nat → Nat → Int64)
theorem all_told (hc : CSd K R C lg m sw ea tk se pe us lo rc t tp pn ln tx n ra pl wo ls I J A B) (w : WG K R C lg m sw) (hl : lo ≤ 2) : ∀ d i (h : Int64), i + d = 7 → mm_run (mm_pr tb_L_all) (7, [some (.ref 0), some (.ref 78), some (.long h), none, some (.int (i32 i)), none], [], (79, e, mm_R0, I, J, A, B)) = mm_run (mm_pr tb_L_all) (37, [some (.ref 0), some (.ref 78), some (.long (itN (fun v h => h * (127 : Int64) + (tdV K R C lg m sw lo v).toInt64) d i h)), none, some (.int (i32 0)), none], [], (79, e, mm_R0, I, J, A, B)) := by
  intro d
  induction d with
  | zero =>
    intro i h hd
    rw [sg_L_all_7, if_neg (show ¬ i32 i < (7 : Int32) by rw [show (7 : Int32) = i32 7 from rfl, i32_lt (by omega) (by decide)]; omega)]
    rfl
  | succ d ih =>
    intro i h hd
    rw [sg_L_all_7, if_pos (show i32 i < (7 : Int32) by rw [show (7 : Int32) = i32 7 from rfl, i32_lt (by omega) (by decide)]; omega), qa_told e I J A B hc w hl (by omega), mm_aft_v, sg_L_all_25, show i32 i + (1 : Int32) = i32 (i + 1) from i32_add i 1, ih (i + 1) _ (by omega)]
    rfl
theorem all_cells (hc : CSd K R C lg m sw ea tk se pe us lo rc t tp pn ln tx n ra pl wo ls I J A B) (w : WG K R C lg m sw) (hD : A 78 0 = i32 (bN K R C)) : ∀ d i (h : Int64) (o5 : Option Value), i + d = bN K R C → ∃ o5', mm_run (mm_pr tb_L_all) (37, [some (.ref 0), some (.ref 78), some (.long h), none, some (.int (i32 i)), o5], [], (79, e, mm_R0, I, J, A, B)) = mm_run (mm_pr tb_L_all) (86, [some (.ref 0), some (.ref 78), some (.long (itN (fun d h => itN (fun v h => h * (127 : Int64) + (clV K R C lg m sw d v).toInt64) 7 0 h) d i h)), none, some (.int (i32 0)), o5'], [], (79, e, mm_R0, I, J, A, B)) := by
  have bl := bN_le w.1
  have inner : ∀ q, q < bN K R C → ∀ d i (h : Int64), i + d = 7 → mm_run (mm_pr tb_L_all) (48, [some (.ref 0), some (.ref 78), some (.long h), none, some (.int (i32 q)), some (.int (i32 i))], [], (79, e, mm_R0, I, J, A, B)) = mm_run (mm_pr tb_L_all) (37, [some (.ref 0), some (.ref 78), some (.long (itN (fun v h => h * (127 : Int64) + (clV K R C lg m sw q v).toInt64) d i h)), none, some (.int (i32 (q + 1))), some (.int (i32 7))], [], (79, e, mm_R0, I, J, A, B)) := by
    intro q hq d
    induction d with
    | zero =>
      intro i h hd
      rw [sg_L_all_48, if_neg (show ¬ i32 i < (7 : Int32) by rw [show (7 : Int32) = i32 7 from rfl, i32_lt (by omega) (by decide)]; omega), show i32 q + (1 : Int32) = i32 (q + 1) from i32_add q 1, show i = 7 by omega]
      rfl
    | succ d ih =>
      intro i h hd
      rw [sg_L_all_48, if_pos (show i32 i < (7 : Int32) by rw [show (7 : Int32) = i32 7 from rfl, i32_lt (by omega) (by decide)]; omega), qa_cell e I J A B hc w hq (by omega), mm_aft_v, sg_L_all_68, show i32 i + (1 : Int32) = i32 (i + 1) from i32_add i 1, ih (i + 1) _ (by omega)]
      rfl
  intro d
  induction d with
  | zero =>
    intro i h o5 hd
    refine ⟨o5, ?_⟩
    rw [sg_L_all_37, show ((0 : Int32)).toInt.toNat = 0 from rfl, hD, if_neg (by rw [i32_lt (by omega) (by omega)]; omega)]
    rfl
  | succ d ih =>
    intro i h o5 hd
    obtain ⟨o', k⟩ := ih (i + 1) (itN (fun v h => h * (127 : Int64) + (clV K R C lg m sw i v).toInt64) 7 0 h) (some (.int (i32 7))) (by omega)
    refine ⟨o', ?_⟩
    rw [sg_L_all_37, show ((0 : Int32)).toInt.toNat = 0 from rfl, hD, if_pos (by rw [i32_lt (by omega) (by omega)]; omega), show (0 : Int32) = i32 0 from rfl, inner i (by omega) 7 0 h rfl, k]
    rfl
theorem all_fits (hc : CSd K R C lg m sw ea tk se pe us lo rc t tp pn ln tx n ra pl wo ls I J A B) (hD : A 78 1 = i32 pn) (h6 : pn ≤ 6) : ∀ d i (h : Int64) (o5 : Option Value), i + d = pn → mm_run (mm_pr tb_L_all) (86, [some (.ref 0), some (.ref 78), some (.long h), none, some (.int (i32 i)), o5], [], (79, e, mm_R0, I, J, A, B)) = mm_run (mm_pr tb_L_all) (129, [some (.ref 0), some (.ref 78), some (.long (itN (fun q h => (h * (1009 : Int64) + fitW K R C (tx q) (ln q) (sN lg m sw 0) (sN lg m sw 1) (emp (bN K R C) (sN lg m sw 0) (sN lg m sw 1))) * (1009 : Int64) + fitW K R C (tx q) (ln q) (sN lg m sw 1) (sN lg m sw 0) (emp (bN K R C) (sN lg m sw 0) (sN lg m sw 1))) d i h)), none, some (.int (i32 0)), o5], [], (79, e, mm_R0, I, J, A, B)) := by
  intro d
  induction d with
  | zero =>
    intro i h o5 hd
    rw [sg_L_all_86, show ((1 : Int32)).toInt.toNat = 1 from rfl, hD, if_neg (by rw [i32_lt (by omega) (by omega)]; omega)]
    rfl
  | succ d ih =>
    intro i h o5 hd
    rw [sg_L_all_86, show ((1 : Int32)).toInt.toNat = 1 from rfl, hD, if_pos (by rw [i32_lt (by omega) (by omega)]; omega), show (0 : Int32) = i32 0 from rfl, qa_fits e I J A B hc (p := 0) (by decide) (by omega), mm_aft_v, sg_L_all_106, show (1 : Int32) = i32 1 from rfl, qa_fits e I J A B hc (p := 1) (by decide) (by omega), mm_aft_v, sg_L_all_118, show i32 i + (1 : Int32) = i32 (i + 1) from i32_add i 1, ih (i + 1) _ o5 (by omega)]
    rfl
theorem all_persons (hc : CSd K R C lg m sw ea tk se pe us lo rc t tp pn ln tx n ra pl wo ls I J A B) (hD : A 78 2 = i32 n) (h10 : n ≤ 10) : ∀ d i (h : Int64) (o5 : Option Value), i + d = n → ∃ o5', mm_run (mm_pr tb_L_all) (129, [some (.ref 0), some (.ref 78), some (.long h), none, some (.int (i32 i)), o5], [], (79, e, mm_R0, I, J, A, B)) = mm_run (mm_pr tb_L_all) (177, [some (.ref 0), some (.ref 78), some (.long (itN (fun p h => itN (fun v h => h * (1009 : Int64) + (shV ra pl wo ls p v).toInt64) 4 0 h) d i h)), none, some (.int (i32 0)), o5'], [], (79, e, mm_R0, I, J, A, B)) := by
  have inner : ∀ q, q < n → ∀ d i (h : Int64), i + d = 4 → mm_run (mm_pr tb_L_all) (140, [some (.ref 0), some (.ref 78), some (.long h), none, some (.int (i32 q)), some (.int (i32 i))], [], (79, e, mm_R0, I, J, A, B)) = mm_run (mm_pr tb_L_all) (129, [some (.ref 0), some (.ref 78), some (.long (itN (fun v h => h * (1009 : Int64) + (shV ra pl wo ls q v).toInt64) d i h)), none, some (.int (i32 (q + 1))), some (.int (i32 4))], [], (79, e, mm_R0, I, J, A, B)) := by
    intro q hq d
    induction d with
    | zero =>
      intro i h hd
      rw [sg_L_all_140, if_neg (show ¬ i32 i < (4 : Int32) by rw [show (4 : Int32) = i32 4 from rfl, i32_lt (by omega) (by decide)]; omega), show i32 q + (1 : Int32) = i32 (q + 1) from i32_add q 1, show i = 4 by omega]
      rfl
    | succ d ih =>
      intro i h hd
      rw [sg_L_all_140, if_pos (show i32 i < (4 : Int32) by rw [show (4 : Int32) = i32 4 from rfl, i32_lt (by omega) (by decide)]; omega), qa_ofP e I J A B hc hq (by omega), mm_aft_v, sg_L_all_159, show i32 i + (1 : Int32) = i32 (i + 1) from i32_add i 1, ih (i + 1) _ (by omega)]
      rfl
  intro d
  induction d with
  | zero =>
    intro i h o5 hd
    refine ⟨o5, ?_⟩
    rw [sg_L_all_129, show ((2 : Int32)).toInt.toNat = 2 from rfl, hD, if_neg (by rw [i32_lt (by omega) (by omega)]; omega)]
    rfl
  | succ d ih =>
    intro i h o5 hd
    obtain ⟨o', k⟩ := ih (i + 1) (itN (fun v h => h * (1009 : Int64) + (shV ra pl wo ls i v).toInt64) 4 0 h) (some (.int (i32 4))) (by omega)
    refine ⟨o', ?_⟩
    rw [sg_L_all_129, show ((2 : Int32)).toInt.toNat = 2 from rfl, hD, if_pos (by rw [i32_lt (by omega) (by omega)]; omega), show (0 : Int32) = i32 0 from rfl, inner i (by omega) 4 0 h rfl, k]
    rfl
theorem all_clocks (hc : CSd K R C lg m sw ea tk se pe us lo rc t tp pn ln tx n ra pl wo ls I J A B) (hY : YB t tp) : ∀ d i (h : Int64) (o5 : Option Value), i + d = 3 → mm_run (mm_pr tb_L_all) (177, [some (.ref 0), some (.ref 78), some (.long h), none, some (.int (i32 i)), o5], [], (79, e, mm_R0, I, J, A, B)) = some (.inl (some (.long (itN (fun v h => (h * (1009 : Int64) + (if v = 0 then i32 (se 0) else if v = 1 then i32 (pe 0) else i32 (us 0)).toInt64) * (1009 : Int64) + (if v = 0 then i32 (se 1) else if v = 1 then i32 (pe 1) else i32 (us 1)).toInt64) d i h * (127 : Int64) + (scn tp t 0 0).toInt64))), (79, e, mm_R0, I, J, A, B)) := by
  intro d
  induction d with
  | zero =>
    intro i h o5 hd
    rw [sg_L_all_177, if_neg (show ¬ i32 i < (3 : Int32) by rw [show (3 : Int32) = i32 3 from rfl, i32_lt (by omega) (by decide)]; omega), qa_fault e I J A B hc hY, mm_aft_v, sg_L_all_226]
    rfl
  | succ d ih =>
    intro i h o5 hd
    rw [sg_L_all_177, if_pos (show i32 i < (3 : Int32) by rw [show (3 : Int32) = i32 3 from rfl, i32_lt (by omega) (by decide)]; omega), show (0 : Int32) = i32 0 from rfl, qa_clock e I J A B hc (p := 0) (by decide) (by omega), mm_aft_v, sg_L_all_195, show (1 : Int32) = i32 1 from rfl, qa_clock e I J A B hc (p := 1) (by decide) (by omega), mm_aft_v, sg_L_all_208, show i32 i + (1 : Int32) = i32 (i + 1) from i32_add i 1, ih (i + 1) _ o5 (by omega)]
    rfl
theorem lw_all (hc : CSd K R C lg m sw ea tk se pe us lo rc t tp pn ln tx n ra pl wo ls I J A B) (hb : BXd K R C lg m sw ea tk se pe us lo rc t tp pn ln tx n ra pl wo ls c) (hD : DRd K R C lg m sw ea tk se pe us lo rc t tp pn ln tx n ra pl wo ls A) : f_L_all [.ref 0, .ref 78] (79, e, mm_R0, I, J, A, B) = some (.inl (some (.long (hV K R C lg m sw ea tk se pe us lo rc t tp pn ln tx n ra pl wo ls))), (79, e, mm_R0, I, J, A, B)) := by
  obtain ⟨o1, k1⟩ := all_cells e I J A B hc hb.1 hD.1 (bN K R C) 0 (itN (fun v h => h * (127 : Int64) + (tdV K R C lg m sw lo v).toInt64) 7 0 (17 : Int64)) none (by omega)
  obtain ⟨o2, k2⟩ := all_persons e I J A B hc hD.2.2.1 hc.2.2.2.2.2.2.2.1 n 0 (itN (fun q h => (h * (1009 : Int64) + fitW K R C (tx q) (ln q) (sN lg m sw 0) (sN lg m sw 1) (emp (bN K R C) (sN lg m sw 0) (sN lg m sw 1))) * (1009 : Int64) + fitW K R C (tx q) (ln q) (sN lg m sw 1) (sN lg m sw 0) (emp (bN K R C) (sN lg m sw 0) (sN lg m sw 1))) pn 0 (itN (fun d h => itN (fun v h => h * (127 : Int64) + (clV K R C lg m sw d v).toInt64) 7 0 h) (bN K R C) 0 (itN (fun v h => h * (127 : Int64) + (tdV K R C lg m sw lo v).toInt64) 7 0 (17 : Int64)))) o1 (by omega)
  rw [en_L_all, sg_L_all_0, show (0 : Int32) = i32 0 from rfl, all_told e I J A B hc hb.1 hb.2.1.1 7 0 (17 : Int64) rfl, k1, all_fits e I J A B hc hD.2.1 hc.2.2.2.2.1.2.1 pn 0 _ o1 (by omega), k2, all_clocks e I J A B hc hb.2.2.1 3 0 _ o2 rfl]
  rfl
theorem lw_all2 (hc : CSd K R C lg m sw ea tk se pe us lo rc t tp pn ln tx n ra pl wo ls (pI I) (pI J) (pI A) (pI B)) (hb : BXd K R C lg m sw ea tk se pe us lo rc t tp pn ln tx n ra pl wo ls c) (hD : DRd K R C lg m sw ea tk se pe us lo rc t tp pn ln tx n ra pl wo ls A) : f_L_all [.ref 39, .ref 78] (79, e, mm_R0, I, J, A, B) = some (.inl (some (.long (hV K R C lg m sw ea tk se pe us lo rc t tp pn ln tx n ra pl wo ls))), (79, e, mm_R0, I, J, A, B)) := by
  have h := sw_of qf_L_all (lw_all e (pI I) (pI J) (pI A) (pI B) hc hb hD.pi)
  rw [pI_pI, pI_pI, pI_pI, pI_pI] at h
  exact h
end
