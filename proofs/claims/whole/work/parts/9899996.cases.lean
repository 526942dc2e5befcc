/-! the cases of the law: by program (wip/whole/gen/gencase.py) -/
theorem sp0_thrown (e : Nat) (I : Nat → Nat → Int32) (J : Nat → Nat → Int64) (A : Nat → Nat → Int32) (B : Nat → Nat → Int64) : f_X11_thrown [.ref 39] (65, e, mm_R0, I, J, A, B) = some (.inl (some (.int (I 39 39))), (65, e, mm_R0, I, J, A, B)) := by
  have h := (en_X11_thrown 1 mm_R0 e I J A B).trans (sg_X11_thrown_0 1 mm_R0 e I J A B)
  rw [mm_RM_0] at h
  exact h
theorem z0 : ((0 : Int32)).toInt.toNat = 0 := rfl
theorem i32_nz {k : Nat} (h4 : k < 4) (h : k ≠ 0) : ¬ i32 k = 0 := fun z => h ((i32_eq (a := k) (b := 0) (by omega) (by decide)).1 z)
theorem sc_in {Ln i d : Nat} (hL : Ln ≤ 2560) (hi : i + 5 ≤ Ln) (hd : d < 5) : 0 ≤ (i32 i + i32 d).toInt ∧ (i32 i + i32 d).toInt < (Ln : Int) := by
  rw [i32_add]
  exact (i32_in (by omega)).2 (by omega)
def LwS (Ln : Nat) (xs : Nat → Int32) (c e : Nat) (I : Nat → Nat → Int32) (J : Nat → Nat → Int64) (A : Nat → Nat → Int32) (B : Nat → Nat → Int64) (pc i : Nat) : Prop :=
  ∀ o5 o6 o7 : Option Value, ∃ (p5 p6 p7 : Option Value) (e' : Nat) (I' : Nat → Nat → Int32) (J' : Nat → Nat → Int64) (A' : Nat → Nat → Int32) (B' : Nat → Nat → Int64), mm_run (pc_law Ln xs) (pc, [some (.ref 2000), some (.ref 0), some (.ref 39), some (.ref 64), some (.int (i32 i)), o5, o6, o7], [], (65, e, mm_R0, I, J, A, B)) = mm_run (pc_law Ln xs) (1839, [some (.ref 2000), some (.ref 0), some (.ref 39), some (.ref 64), some (.int (i32 i)), p5, p6, p7], [], (65, e', mm_R0, I', J', A', B')) ∧ e' ≤ e + 1 ∧ WR (c + 1) I' J' A' B'
section
variable {Ln : Nat} {xs : Nat → Int32} {i c e : Nat} {I : Nat → Nat → Int32} {J : Nat → Nat → Int64} {A : Nat → Nat → Int32} {B : Nat → Nat → Int64}
theorem lc_game (hi : i + 5 ≤ Ln) (hL : Ln ≤ 2560) (st : ∀ (x1 : Int32) (x2 : Int32) (x3 : Int32), StG vI oI c e I J A B f_L_game [.ref 0, .int x1, .int x2, .int x3, .ref 64] f_X11_game [.ref 39, .int x1, .int x2, .int x3]) : LwS Ln xs c e I J A B 168 i := by
  intro o5 o6 o7
  obtain ⟨e', kk, v, I1, J1, A1, B1, I2, J2, A2, B2, h4, hL1, hM1, h39, hout, he, hw⟩ := st ((xs ((i32 i + (1 : Int32))).toInt.toNat)) ((xs ((i32 i + (2 : Int32))).toInt.toNat)) ((xs ((i32 i + (3 : Int32))).toInt.toNat))
  have r1 : 0 ≤ (i32 i + (1 : Int32)).toInt ∧ (i32 i + (1 : Int32)).toInt < (Ln : Int) := sc_in (d := 1) hL hi (by decide)
  have r2 : 0 ≤ (i32 i + (2 : Int32)).toInt ∧ (i32 i + (2 : Int32)).toInt < (Ln : Int) := sc_in (d := 2) hL hi (by decide)
  have r3 : 0 ≤ (i32 i + (3 : Int32)).toInt ∧ (i32 i + (3 : Int32)).toInt < (Ln : Int) := sc_in (d := 3) hL hi (by decide)
  refine ⟨some (.int (i32 kk)), some (.int v), o7, e', I2, J2, A2, B2, ?_, he, hw⟩
  rw [sg_L_law_168, if_pos r1, if_pos r2, if_pos r3, hL1, mm_aft_v, sg_L_law_191, if_pos r1, if_pos r2, if_pos r3, hM1, mm_aft_v, sg_L_law_215, sp0_thrown, mm_aft_v, sg_L_law_221, h39, if_pos (show i32 kk = i32 kk from rfl)]
  by_cases k0 : kk = 0
  · rw [if_pos (show i32 kk = 0 by rw [k0]; rfl), z0, if_pos (show B2 64 0 = v.toInt64 from hout k0), sg_L_law_245]
  · rw [if_neg (i32_nz h4 k0), sg_L_law_245]
theorem lc_move (hi : i + 5 ≤ Ln) (hL : Ln ≤ 2560) (st : ∀ (x1 : Int32), StG vI oI c e I J A B f_L_move [.ref 0, .int x1, .ref 64] f_X11_move [.ref 39, .int x1]) : LwS Ln xs c e I J A B 248 i := by
  intro o5 o6 o7
  obtain ⟨e', kk, v, I1, J1, A1, B1, I2, J2, A2, B2, h4, hL1, hM1, h39, hout, he, hw⟩ := st ((xs ((i32 i + (1 : Int32))).toInt.toNat))
  have r1 : 0 ≤ (i32 i + (1 : Int32)).toInt ∧ (i32 i + (1 : Int32)).toInt < (Ln : Int) := sc_in (d := 1) hL hi (by decide)
  refine ⟨some (.int (i32 kk)), some (.int v), o7, e', I2, J2, A2, B2, ?_, he, hw⟩
  rw [sg_L_law_248, if_pos r1, hL1, mm_aft_v, sg_L_law_259, if_pos r1, hM1, mm_aft_v, sg_L_law_271, sp0_thrown, mm_aft_v, sg_L_law_277, h39, if_pos (show i32 kk = i32 kk from rfl)]
  by_cases k0 : kk = 0
  · rw [if_pos (show i32 kk = 0 by rw [k0]; rfl), z0, if_pos (show B2 64 0 = v.toInt64 from hout k0), sg_L_law_301]
  · rw [if_neg (i32_nz h4 k0), sg_L_law_301]
theorem lc_swap (st : StG vI oI c e I J A B f_L_swap [.ref 0, .ref 64] f_X11_swap [.ref 39]) : LwS Ln xs c e I J A B 304 i := by
  intro o5 o6 o7
  obtain ⟨e', kk, v, I1, J1, A1, B1, I2, J2, A2, B2, h4, hL1, hM1, h39, hout, he, hw⟩ := st
  refine ⟨some (.int (i32 kk)), some (.int v), o7, e', I2, J2, A2, B2, ?_, he, hw⟩
  rw [sg_L_law_304, hL1, mm_aft_v, sg_L_law_309, hM1, mm_aft_v, sg_L_law_315, sp0_thrown, mm_aft_v, sg_L_law_321, h39, if_pos (show i32 kk = i32 kk from rfl)]
  by_cases k0 : kk = 0
  · rw [if_pos (show i32 kk = 0 by rw [k0]; rfl), z0, if_pos (show B2 64 0 = v.toInt64 from hout k0), sg_L_law_345]
  · rw [if_neg (i32_nz h4 k0), sg_L_law_345]
theorem lc_undo (st : StG vI oI c e I J A B f_L_undo [.ref 0, .ref 64] f_X11_undo [.ref 39]) : LwS Ln xs c e I J A B 348 i := by
  intro o5 o6 o7
  obtain ⟨e', kk, v, I1, J1, A1, B1, I2, J2, A2, B2, h4, hL1, hM1, h39, hout, he, hw⟩ := st
  refine ⟨some (.int (i32 kk)), some (.int v), o7, e', I2, J2, A2, B2, ?_, he, hw⟩
  rw [sg_L_law_348, hL1, mm_aft_v, sg_L_law_353, hM1, mm_aft_v, sg_L_law_359, sp0_thrown, mm_aft_v, sg_L_law_365, h39, if_pos (show i32 kk = i32 kk from rfl)]
  by_cases k0 : kk = 0
  · rw [if_pos (show i32 kk = 0 by rw [k0]; rfl), z0, if_pos (show B2 64 0 = v.toInt64 from hout k0), sg_L_law_389]
  · rw [if_neg (i32_nz h4 k0), sg_L_law_389]
theorem lc_told (hi : i + 5 ≤ Ln) (hL : Ln ≤ 2560) (st : ∀ (x1 : Int32), StG vI oI c e I J A B f_L_told [.ref 0, .int x1, .ref 64] f_X11_told [.ref 39, .int x1]) : LwS Ln xs c e I J A B 392 i := by
  intro o5 o6 o7
  obtain ⟨e', kk, v, I1, J1, A1, B1, I2, J2, A2, B2, h4, hL1, hM1, h39, hout, he, hw⟩ := st ((xs ((i32 i + (1 : Int32))).toInt.toNat))
  have r1 : 0 ≤ (i32 i + (1 : Int32)).toInt ∧ (i32 i + (1 : Int32)).toInt < (Ln : Int) := sc_in (d := 1) hL hi (by decide)
  refine ⟨some (.int (i32 kk)), some (.int v), o7, e', I2, J2, A2, B2, ?_, he, hw⟩
  rw [sg_L_law_392, if_pos r1, hL1, mm_aft_v, sg_L_law_403, if_pos r1, hM1, mm_aft_v, sg_L_law_415, sp0_thrown, mm_aft_v, sg_L_law_421, h39, if_pos (show i32 kk = i32 kk from rfl)]
  by_cases k0 : kk = 0
  · rw [if_pos (show i32 kk = 0 by rw [k0]; rfl), z0, if_pos (show B2 64 0 = v.toInt64 from hout k0), sg_L_law_445]
  · rw [if_neg (i32_nz h4 k0), sg_L_law_445]
theorem lc_cell (hi : i + 5 ≤ Ln) (hL : Ln ≤ 2560) (st : ∀ (x1 : Int32) (x2 : Int32), StG vI oI c e I J A B f_L_cell [.ref 0, .int x1, .int x2, .ref 64] f_X11_cell [.ref 39, .int x1, .int x2]) : LwS Ln xs c e I J A B 448 i := by
  intro o5 o6 o7
  obtain ⟨e', kk, v, I1, J1, A1, B1, I2, J2, A2, B2, h4, hL1, hM1, h39, hout, he, hw⟩ := st ((xs ((i32 i + (1 : Int32))).toInt.toNat)) ((xs ((i32 i + (2 : Int32))).toInt.toNat))
  have r1 : 0 ≤ (i32 i + (1 : Int32)).toInt ∧ (i32 i + (1 : Int32)).toInt < (Ln : Int) := sc_in (d := 1) hL hi (by decide)
  have r2 : 0 ≤ (i32 i + (2 : Int32)).toInt ∧ (i32 i + (2 : Int32)).toInt < (Ln : Int) := sc_in (d := 2) hL hi (by decide)
  refine ⟨some (.int (i32 kk)), some (.int v), o7, e', I2, J2, A2, B2, ?_, he, hw⟩
  rw [sg_L_law_448, if_pos r1, if_pos r2, hL1, mm_aft_v, sg_L_law_465, if_pos r1, if_pos r2, hM1, mm_aft_v, sg_L_law_483, sp0_thrown, mm_aft_v, sg_L_law_489, h39, if_pos (show i32 kk = i32 kk from rfl)]
  by_cases k0 : kk = 0
  · rw [if_pos (show i32 kk = 0 by rw [k0]; rfl), z0, if_pos (show B2 64 0 = v.toInt64 from hout k0), sg_L_law_513]
  · rw [if_neg (i32_nz h4 k0), sg_L_law_513]
theorem lc_neighbour (hi : i + 5 ≤ Ln) (hL : Ln ≤ 2560) (st : ∀ (x1 : Int32) (x2 : Int32), StG vI oI c e I J A B f_L_neighbour [.ref 0, .int x1, .int x2, .ref 64] f_X11_neighbour [.ref 39, .int x1, .int x2]) : LwS Ln xs c e I J A B 516 i := by
  intro o5 o6 o7
  obtain ⟨e', kk, v, I1, J1, A1, B1, I2, J2, A2, B2, h4, hL1, hM1, h39, hout, he, hw⟩ := st ((xs ((i32 i + (1 : Int32))).toInt.toNat)) ((xs ((i32 i + (2 : Int32))).toInt.toNat))
  have r1 : 0 ≤ (i32 i + (1 : Int32)).toInt ∧ (i32 i + (1 : Int32)).toInt < (Ln : Int) := sc_in (d := 1) hL hi (by decide)
  have r2 : 0 ≤ (i32 i + (2 : Int32)).toInt ∧ (i32 i + (2 : Int32)).toInt < (Ln : Int) := sc_in (d := 2) hL hi (by decide)
  refine ⟨some (.int (i32 kk)), some (.int v), o7, e', I2, J2, A2, B2, ?_, he, hw⟩
  rw [sg_L_law_516, if_pos r1, if_pos r2, hL1, mm_aft_v, sg_L_law_533, if_pos r1, if_pos r2, hM1, mm_aft_v, sg_L_law_551, sp0_thrown, mm_aft_v, sg_L_law_557, h39, if_pos (show i32 kk = i32 kk from rfl)]
  by_cases k0 : kk = 0
  · rw [if_pos (show i32 kk = 0 by rw [k0]; rfl), z0, if_pos (show B2 64 0 = v.toInt64 from hout k0), sg_L_law_581]
  · rw [if_neg (i32_nz h4 k0), sg_L_law_581]
theorem lc_best (st : StG vI oI c e I J A B f_L_best [.ref 0, .ref 64] f_X11_best [.ref 39]) : LwS Ln xs c e I J A B 584 i := by
  intro o5 o6 o7
  obtain ⟨e', kk, v, I1, J1, A1, B1, I2, J2, A2, B2, h4, hL1, hM1, h39, hout, he, hw⟩ := st
  refine ⟨some (.int (i32 kk)), some (.int v), o7, e', I2, J2, A2, B2, ?_, he, hw⟩
  rw [sg_L_law_584, hL1, mm_aft_v, sg_L_law_589, hM1, mm_aft_v, sg_L_law_595, sp0_thrown, mm_aft_v, sg_L_law_601, h39, if_pos (show i32 kk = i32 kk from rfl)]
  by_cases k0 : kk = 0
  · rw [if_pos (show i32 kk = 0 by rw [k0]; rfl), z0, if_pos (show B2 64 0 = v.toInt64 from hout k0), sg_L_law_625]
  · rw [if_neg (i32_nz h4 k0), sg_L_law_625]
theorem lc_wins (st : StG vJ oJ c e I J A B f_L_wins [.ref 0, .ref 64] f_X11_wins [.ref 39]) : LwS Ln xs c e I J A B 628 i := by
  intro o5 o6 o7
  obtain ⟨e', kk, v, I1, J1, A1, B1, I2, J2, A2, B2, h4, hL1, hM1, h39, hout, he, hw⟩ := st
  refine ⟨some (.int (i32 kk)), some (.long v), none, e', I2, J2, A2, B2, ?_, he, hw⟩
  rw [sg_L_law_628, hL1, mm_aft_v, sg_L_law_633, hM1, mm_aft_v, sg_L_law_639, sp0_thrown, mm_aft_v, sg_L_law_645, h39, if_pos (show i32 kk = i32 kk from rfl)]
  by_cases k0 : kk = 0
  · rw [if_pos (show i32 kk = 0 by rw [k0]; rfl), z0, if_pos (show B2 64 0 = v from hout k0), sg_L_law_668]
  · rw [if_neg (i32_nz h4 k0), sg_L_law_668]
theorem lc_lasts (st : StG vI oI c e I J A B f_L_lasts [.ref 0, .ref 64] f_X11_lasts [.ref 39]) : LwS Ln xs c e I J A B 671 i := by
  intro o5 o6 o7
  obtain ⟨e', kk, v, I1, J1, A1, B1, I2, J2, A2, B2, h4, hL1, hM1, h39, hout, he, hw⟩ := st
  refine ⟨some (.int (i32 kk)), some (.int v), o7, e', I2, J2, A2, B2, ?_, he, hw⟩
  rw [sg_L_law_671, hL1, mm_aft_v, sg_L_law_676, hM1, mm_aft_v, sg_L_law_682, sp0_thrown, mm_aft_v, sg_L_law_688, h39, if_pos (show i32 kk = i32 kk from rfl)]
  by_cases k0 : kk = 0
  · rw [if_pos (show i32 kk = 0 by rw [k0]; rfl), z0, if_pos (show B2 64 0 = v.toInt64 from hout k0), sg_L_law_712]
  · rw [if_neg (i32_nz h4 k0), sg_L_law_712]
theorem lc_dead (st : StG vJ oJ c e I J A B f_L_dead [.ref 0, .ref 64] f_X11_dead [.ref 39]) : LwS Ln xs c e I J A B 715 i := by
  intro o5 o6 o7
  obtain ⟨e', kk, v, I1, J1, A1, B1, I2, J2, A2, B2, h4, hL1, hM1, h39, hout, he, hw⟩ := st
  refine ⟨some (.int (i32 kk)), some (.long v), none, e', I2, J2, A2, B2, ?_, he, hw⟩
  rw [sg_L_law_715, hL1, mm_aft_v, sg_L_law_720, hM1, mm_aft_v, sg_L_law_726, sp0_thrown, mm_aft_v, sg_L_law_732, h39, if_pos (show i32 kk = i32 kk from rfl)]
  by_cases k0 : kk = 0
  · rw [if_pos (show i32 kk = 0 by rw [k0]; rfl), z0, if_pos (show B2 64 0 = v from hout k0), sg_L_law_755]
  · rw [if_neg (i32_nz h4 k0), sg_L_law_755]
theorem lc_carrier (hi : i + 5 ≤ Ln) (hL : Ln ≤ 2560) (st : ∀ (x1 : Int32) (x2 : Int32) (x3 : Int32), StG vJ oJ c e I J A B f_L_carrier [.ref 0, .int x1, .int x2, .int x3, .ref 64] f_X11_carrier [.ref 39, .int x1, .int x2, .int x3]) : LwS Ln xs c e I J A B 758 i := by
  intro o5 o6 o7
  obtain ⟨e', kk, v, I1, J1, A1, B1, I2, J2, A2, B2, h4, hL1, hM1, h39, hout, he, hw⟩ := st ((xs ((i32 i + (1 : Int32))).toInt.toNat)) ((xs ((i32 i + (2 : Int32))).toInt.toNat)) ((xs ((i32 i + (3 : Int32))).toInt.toNat))
  have r1 : 0 ≤ (i32 i + (1 : Int32)).toInt ∧ (i32 i + (1 : Int32)).toInt < (Ln : Int) := sc_in (d := 1) hL hi (by decide)
  have r2 : 0 ≤ (i32 i + (2 : Int32)).toInt ∧ (i32 i + (2 : Int32)).toInt < (Ln : Int) := sc_in (d := 2) hL hi (by decide)
  have r3 : 0 ≤ (i32 i + (3 : Int32)).toInt ∧ (i32 i + (3 : Int32)).toInt < (Ln : Int) := sc_in (d := 3) hL hi (by decide)
  refine ⟨some (.int (i32 kk)), some (.long v), none, e', I2, J2, A2, B2, ?_, he, hw⟩
  rw [sg_L_law_758, if_pos r1, if_pos r2, if_pos r3, hL1, mm_aft_v, sg_L_law_781, if_pos r1, if_pos r2, if_pos r3, hM1, mm_aft_v, sg_L_law_805, sp0_thrown, mm_aft_v, sg_L_law_811, h39, if_pos (show i32 kk = i32 kk from rfl)]
  by_cases k0 : kk = 0
  · rw [if_pos (show i32 kk = 0 by rw [k0]; rfl), z0, if_pos (show B2 64 0 = v from hout k0), sg_L_law_834]
  · rw [if_neg (i32_nz h4 k0), sg_L_law_834]
theorem lc_answer (hi : i + 5 ≤ Ln) (hL : Ln ≤ 2560) (st : ∀ (x1 : Int32) (x2 : Int32) (x3 : Int32) (x4 : Int32), StG vI oI c e I J A B f_L_answer [.ref 0, .int x1, .int x2, .int x3, .int x4, .ref 64] f_X11_answer [.ref 39, .int x1, .int x2, .int x3, .int x4]) : LwS Ln xs c e I J A B 837 i := by
  intro o5 o6 o7
  obtain ⟨e', kk, v, I1, J1, A1, B1, I2, J2, A2, B2, h4, hL1, hM1, h39, hout, he, hw⟩ := st ((xs ((i32 i + (1 : Int32))).toInt.toNat)) ((xs ((i32 i + (2 : Int32))).toInt.toNat)) ((xs ((i32 i + (3 : Int32))).toInt.toNat)) ((xs ((i32 i + (4 : Int32))).toInt.toNat))
  have r1 : 0 ≤ (i32 i + (1 : Int32)).toInt ∧ (i32 i + (1 : Int32)).toInt < (Ln : Int) := sc_in (d := 1) hL hi (by decide)
  have r2 : 0 ≤ (i32 i + (2 : Int32)).toInt ∧ (i32 i + (2 : Int32)).toInt < (Ln : Int) := sc_in (d := 2) hL hi (by decide)
  have r3 : 0 ≤ (i32 i + (3 : Int32)).toInt ∧ (i32 i + (3 : Int32)).toInt < (Ln : Int) := sc_in (d := 3) hL hi (by decide)
  have r4 : 0 ≤ (i32 i + (4 : Int32)).toInt ∧ (i32 i + (4 : Int32)).toInt < (Ln : Int) := sc_in (d := 4) hL hi (by decide)
  refine ⟨some (.int (i32 kk)), some (.int v), o7, e', I2, J2, A2, B2, ?_, he, hw⟩
  rw [sg_L_law_837, if_pos r1, if_pos r2, if_pos r3, if_pos r4, hL1, mm_aft_v, sg_L_law_866, if_pos r1, if_pos r2, if_pos r3, if_pos r4, hM1, mm_aft_v, sg_L_law_896, sp0_thrown, mm_aft_v, sg_L_law_902, h39, if_pos (show i32 kk = i32 kk from rfl)]
  by_cases k0 : kk = 0
  · rw [if_pos (show i32 kk = 0 by rw [k0]; rfl), z0, if_pos (show B2 64 0 = v.toInt64 from hout k0), sg_L_law_926]
  · rw [if_neg (i32_nz h4 k0), sg_L_law_926]
theorem lc_gaveAway (hi : i + 5 ≤ Ln) (hL : Ln ≤ 2560) (st : ∀ (x1 : Int32), StG vZ oZ c e I J A B f_L_gaveAway [.ref 0, .int x1, .ref 64] f_X11_gaveAway [.ref 39, .int x1]) : LwS Ln xs c e I J A B 929 i := by
  intro o5 o6 o7
  obtain ⟨e', kk, v, I1, J1, A1, B1, I2, J2, A2, B2, h4, hL1, hM1, h39, hout, he, hw⟩ := st ((xs ((i32 i + (1 : Int32))).toInt.toNat))
  have r1 : 0 ≤ (i32 i + (1 : Int32)).toInt ∧ (i32 i + (1 : Int32)).toInt < (Ln : Int) := sc_in (d := 1) hL hi (by decide)
  refine ⟨some (.int (i32 kk)), some (.int (bi v)), o7, e', I2, J2, A2, B2, ?_, he, hw⟩
  rw [sg_L_law_929, if_pos r1, hL1, mm_aft_v, sg_L_law_940, if_pos r1, hM1, mm_aft_v, sg_L_law_952, sp0_thrown, mm_aft_v, sg_L_law_958, h39, if_pos (show i32 kk = i32 kk from rfl)]
  by_cases k0 : kk = 0
  · rw [if_pos (show i32 kk = 0 by rw [k0]; rfl)]
    cases v with
    | true => rw [if_neg (show ¬ bi true = 0 by decide), sg_L_law_983, z0, if_pos (show B2 64 0 = (1 : Int64) from hout k0), sg_L_law_989]
    | false => rw [if_pos (show bi false = 0 from rfl), sg_L_law_983, z0, if_pos (show B2 64 0 = (0 : Int64) from hout k0), sg_L_law_989]
  · rw [if_neg (i32_nz h4 k0), sg_L_law_989]
theorem lc_far (hi : i + 5 ≤ Ln) (hL : Ln ≤ 2560) (st : ∀ (x1 : Int32), StG vI oI c e I J A B f_L_far [.ref 0, .int x1, .ref 64] f_X11_far [.ref 39, .int x1]) : LwS Ln xs c e I J A B 992 i := by
  intro o5 o6 o7
  obtain ⟨e', kk, v, I1, J1, A1, B1, I2, J2, A2, B2, h4, hL1, hM1, h39, hout, he, hw⟩ := st ((xs ((i32 i + (1 : Int32))).toInt.toNat))
  have r1 : 0 ≤ (i32 i + (1 : Int32)).toInt ∧ (i32 i + (1 : Int32)).toInt < (Ln : Int) := sc_in (d := 1) hL hi (by decide)
  refine ⟨some (.int (i32 kk)), some (.int v), o7, e', I2, J2, A2, B2, ?_, he, hw⟩
  rw [sg_L_law_992, if_pos r1, hL1, mm_aft_v, sg_L_law_1003, if_pos r1, hM1, mm_aft_v, sg_L_law_1015, sp0_thrown, mm_aft_v, sg_L_law_1021, h39, if_pos (show i32 kk = i32 kk from rfl)]
  by_cases k0 : kk = 0
  · rw [if_pos (show i32 kk = 0 by rw [k0]; rfl), z0, if_pos (show B2 64 0 = v.toInt64 from hout k0), sg_L_law_1045]
  · rw [if_neg (i32_nz h4 k0), sg_L_law_1045]
theorem lc_plays (hi : i + 5 ≤ Ln) (hL : Ln ≤ 2560) (st : ∀ (x1 : Int32) (x2 : Int32), StG vI oI c e I J A B f_L_plays [.ref 0, .int x1, .int x2, .ref 64] f_X11_plays [.ref 39, .int x1, .int x2]) : LwS Ln xs c e I J A B 1048 i := by
  intro o5 o6 o7
  obtain ⟨e', kk, v, I1, J1, A1, B1, I2, J2, A2, B2, h4, hL1, hM1, h39, hout, he, hw⟩ := st ((xs ((i32 i + (1 : Int32))).toInt.toNat)) ((xs ((i32 i + (2 : Int32))).toInt.toNat))
  have r1 : 0 ≤ (i32 i + (1 : Int32)).toInt ∧ (i32 i + (1 : Int32)).toInt < (Ln : Int) := sc_in (d := 1) hL hi (by decide)
  have r2 : 0 ≤ (i32 i + (2 : Int32)).toInt ∧ (i32 i + (2 : Int32)).toInt < (Ln : Int) := sc_in (d := 2) hL hi (by decide)
  refine ⟨some (.int (i32 kk)), some (.int v), o7, e', I2, J2, A2, B2, ?_, he, hw⟩
  rw [sg_L_law_1048, if_pos r1, if_pos r2, hL1, mm_aft_v, sg_L_law_1065, if_pos r1, if_pos r2, hM1, mm_aft_v, sg_L_law_1083, sp0_thrown, mm_aft_v, sg_L_law_1089, h39, if_pos (show i32 kk = i32 kk from rfl)]
  by_cases k0 : kk = 0
  · rw [if_pos (show i32 kk = 0 by rw [k0]; rfl), z0, if_pos (show B2 64 0 = v.toInt64 from hout k0), sg_L_law_1113]
  · rw [if_neg (i32_nz h4 k0), sg_L_law_1113]
theorem lc_playedOut (hi : i + 5 ≤ Ln) (hL : Ln ≤ 2560) (st : ∀ (x1 : Int32), StG vJ oJ c e I J A B f_L_playedOut [.ref 0, .int x1, .ref 64] f_X11_playedOut [.ref 39, .int x1]) : LwS Ln xs c e I J A B 1116 i := by
  intro o5 o6 o7
  obtain ⟨e', kk, v, I1, J1, A1, B1, I2, J2, A2, B2, h4, hL1, hM1, h39, hout, he, hw⟩ := st ((xs ((i32 i + (1 : Int32))).toInt.toNat))
  have r1 : 0 ≤ (i32 i + (1 : Int32)).toInt ∧ (i32 i + (1 : Int32)).toInt < (Ln : Int) := sc_in (d := 1) hL hi (by decide)
  refine ⟨some (.int (i32 kk)), some (.long v), none, e', I2, J2, A2, B2, ?_, he, hw⟩
  rw [sg_L_law_1116, if_pos r1, hL1, mm_aft_v, sg_L_law_1127, if_pos r1, hM1, mm_aft_v, sg_L_law_1139, sp0_thrown, mm_aft_v, sg_L_law_1145, h39, if_pos (show i32 kk = i32 kk from rfl)]
  by_cases k0 : kk = 0
  · rw [if_pos (show i32 kk = 0 by rw [k0]; rfl), z0, if_pos (show B2 64 0 = v from hout k0), sg_L_law_1168]
  · rw [if_neg (i32_nz h4 k0), sg_L_law_1168]
theorem lc_type (hi : i + 5 ≤ Ln) (hL : Ln ≤ 2560) (st : ∀ (x1 : Int64) (x3 : Int32), StG vI oI c e I J A B f_L_type [.ref 0, .long x1, .int x3, .ref 64] f_X11_type [.ref 39, .long x1, .int x3]) : LwS Ln xs c e I J A B 1171 i := by
  intro o5 o6 o7
  obtain ⟨e', kk, v, I1, J1, A1, B1, I2, J2, A2, B2, h4, hL1, hM1, h39, hout, he, hw⟩ := st (((((xs ((i32 i + (1 : Int32))).toInt.toNat).toInt64) <<< ((32 : Int32).toInt64 &&& 63)) ||| (((xs ((i32 i + (2 : Int32))).toInt.toNat).toInt64) &&& (4294967295 : Int64)))) ((xs ((i32 i + (3 : Int32))).toInt.toNat))
  have r1 : 0 ≤ (i32 i + (1 : Int32)).toInt ∧ (i32 i + (1 : Int32)).toInt < (Ln : Int) := sc_in (d := 1) hL hi (by decide)
  have r2 : 0 ≤ (i32 i + (2 : Int32)).toInt ∧ (i32 i + (2 : Int32)).toInt < (Ln : Int) := sc_in (d := 2) hL hi (by decide)
  have r3 : 0 ≤ (i32 i + (3 : Int32)).toInt ∧ (i32 i + (3 : Int32)).toInt < (Ln : Int) := sc_in (d := 3) hL hi (by decide)
  refine ⟨some (.int (i32 kk)), some (.int v), o7, e', I2, J2, A2, B2, ?_, he, hw⟩
  rw [sg_L_law_1171, if_pos r1, if_pos r2, if_pos r3, hL1, mm_aft_v, sg_L_law_1204, if_pos r1, if_pos r2, if_pos r3, hM1, mm_aft_v, sg_L_law_1238, sp0_thrown, mm_aft_v, sg_L_law_1244, h39, if_pos (show i32 kk = i32 kk from rfl)]
  by_cases k0 : kk = 0
  · rw [if_pos (show i32 kk = 0 by rw [k0]; rfl), z0, if_pos (show B2 64 0 = v.toInt64 from hout k0), sg_L_law_1268]
  · rw [if_neg (i32_nz h4 k0), sg_L_law_1268]
theorem lc_wipe (st : StW c e I J A B f_X10_wipe f_X11_wipe) : LwS Ln xs c e I J A B 1271 i := by
  intro o5 o6 o7
  obtain ⟨v, I1, J1, A1, B1, I2, J2, A2, B2, hL1, hM1, hw⟩ := st
  refine ⟨o5, o6, o7, e, I2, J2, A2, B2, ?_, by omega, hw⟩
  rw [sg_L_law_1271, hL1, mm_aft_v, sg_L_law_1275, hM1, mm_aft_v, sg_L_law_1279, if_pos (show v = v from rfl)]
theorem lc_fault (st : StW c e I J A B f_X10_fault f_X11_fault) : LwS Ln xs c e I J A B 1284 i := by
  intro o5 o6 o7
  obtain ⟨v, I1, J1, A1, B1, I2, J2, A2, B2, hL1, hM1, hw⟩ := st
  refine ⟨o5, o6, o7, e, I2, J2, A2, B2, ?_, by omega, hw⟩
  rw [sg_L_law_1284, hL1, mm_aft_v, sg_L_law_1288, hM1, mm_aft_v, sg_L_law_1292, if_pos (show v = v from rfl)]
theorem lc_pattern (st : StG vI oI c e I J A B f_L_pattern [.ref 0, .ref 64] f_X11_pattern [.ref 39]) : LwS Ln xs c e I J A B 1297 i := by
  intro o5 o6 o7
  obtain ⟨e', kk, v, I1, J1, A1, B1, I2, J2, A2, B2, h4, hL1, hM1, h39, hout, he, hw⟩ := st
  refine ⟨some (.int (i32 kk)), some (.int v), o7, e', I2, J2, A2, B2, ?_, he, hw⟩
  rw [sg_L_law_1297, hL1, mm_aft_v, sg_L_law_1302, hM1, mm_aft_v, sg_L_law_1308, sp0_thrown, mm_aft_v, sg_L_law_1314, h39, if_pos (show i32 kk = i32 kk from rfl)]
  by_cases k0 : kk = 0
  · rw [if_pos (show i32 kk = 0 by rw [k0]; rfl), z0, if_pos (show B2 64 0 = v.toInt64 from hout k0), sg_L_law_1338]
  · rw [if_neg (i32_nz h4 k0), sg_L_law_1338]
theorem lc_fits (hi : i + 5 ≤ Ln) (hL : Ln ≤ 2560) (st : ∀ (x1 : Int32) (x2 : Int32), StG vJ oJ c e I J A B f_L_fits [.ref 0, .int x1, .int x2, .ref 64] f_X11_fits [.ref 39, .int x1, .int x2]) : LwS Ln xs c e I J A B 1341 i := by
  intro o5 o6 o7
  obtain ⟨e', kk, v, I1, J1, A1, B1, I2, J2, A2, B2, h4, hL1, hM1, h39, hout, he, hw⟩ := st ((xs ((i32 i + (1 : Int32))).toInt.toNat)) ((xs ((i32 i + (2 : Int32))).toInt.toNat))
  have r1 : 0 ≤ (i32 i + (1 : Int32)).toInt ∧ (i32 i + (1 : Int32)).toInt < (Ln : Int) := sc_in (d := 1) hL hi (by decide)
  have r2 : 0 ≤ (i32 i + (2 : Int32)).toInt ∧ (i32 i + (2 : Int32)).toInt < (Ln : Int) := sc_in (d := 2) hL hi (by decide)
  refine ⟨some (.int (i32 kk)), some (.long v), none, e', I2, J2, A2, B2, ?_, he, hw⟩
  rw [sg_L_law_1341, if_pos r1, if_pos r2, hL1, mm_aft_v, sg_L_law_1358, if_pos r1, if_pos r2, hM1, mm_aft_v, sg_L_law_1376, sp0_thrown, mm_aft_v, sg_L_law_1382, h39, if_pos (show i32 kk = i32 kk from rfl)]
  by_cases k0 : kk = 0
  · rw [if_pos (show i32 kk = 0 by rw [k0]; rfl), z0, if_pos (show B2 64 0 = v from hout k0), sg_L_law_1405]
  · rw [if_neg (i32_nz h4 k0), sg_L_law_1405]
theorem lc_fitsAnew (hi : i + 5 ≤ Ln) (hL : Ln ≤ 2560) (st : ∀ (x1 : Int32) (x2 : Int32), StG vJ oJ c e I J A B f_L_fitsAnew [.ref 0, .int x1, .int x2, .ref 64] f_X11_fitsAnew [.ref 39, .int x1, .int x2]) : LwS Ln xs c e I J A B 1408 i := by
  intro o5 o6 o7
  obtain ⟨e', kk, v, I1, J1, A1, B1, I2, J2, A2, B2, h4, hL1, hM1, h39, hout, he, hw⟩ := st ((xs ((i32 i + (1 : Int32))).toInt.toNat)) ((xs ((i32 i + (2 : Int32))).toInt.toNat))
  have r1 : 0 ≤ (i32 i + (1 : Int32)).toInt ∧ (i32 i + (1 : Int32)).toInt < (Ln : Int) := sc_in (d := 1) hL hi (by decide)
  have r2 : 0 ≤ (i32 i + (2 : Int32)).toInt ∧ (i32 i + (2 : Int32)).toInt < (Ln : Int) := sc_in (d := 2) hL hi (by decide)
  refine ⟨some (.int (i32 kk)), some (.long v), none, e', I2, J2, A2, B2, ?_, he, hw⟩
  rw [sg_L_law_1408, if_pos r1, if_pos r2, hL1, mm_aft_v, sg_L_law_1425, if_pos r1, if_pos r2, hM1, mm_aft_v, sg_L_law_1443, sp0_thrown, mm_aft_v, sg_L_law_1449, h39, if_pos (show i32 kk = i32 kk from rfl)]
  by_cases k0 : kk = 0
  · rw [if_pos (show i32 kk = 0 by rw [k0]; rfl), z0, if_pos (show B2 64 0 = v from hout k0), sg_L_law_1472]
  · rw [if_neg (i32_nz h4 k0), sg_L_law_1472]
theorem lc_clocks (hi : i + 5 ≤ Ln) (hL : Ln ≤ 2560) (st : ∀ (x1 : Int32) (x2 : Int32) (x3 : Int32), StN c e I J A B f_L_clocks [.ref 0, .int x1, .int x2, .int x3] f_X11_clocks [.ref 39, .int x1, .int x2, .int x3]) : LwS Ln xs c e I J A B 1475 i := by
  intro o5 o6 o7
  obtain ⟨e', kk, I1, J1, A1, B1, I2, J2, A2, B2, h4, hL1, hM1, h39, he, hw⟩ := st ((xs ((i32 i + (1 : Int32))).toInt.toNat)) ((xs ((i32 i + (2 : Int32))).toInt.toNat)) ((xs ((i32 i + (3 : Int32))).toInt.toNat))
  have r1 : 0 ≤ (i32 i + (1 : Int32)).toInt ∧ (i32 i + (1 : Int32)).toInt < (Ln : Int) := sc_in (d := 1) hL hi (by decide)
  have r2 : 0 ≤ (i32 i + (2 : Int32)).toInt ∧ (i32 i + (2 : Int32)).toInt < (Ln : Int) := sc_in (d := 2) hL hi (by decide)
  have r3 : 0 ≤ (i32 i + (3 : Int32)).toInt ∧ (i32 i + (3 : Int32)).toInt < (Ln : Int) := sc_in (d := 3) hL hi (by decide)
  refine ⟨some (.int (i32 kk)), o6, o7, e', I2, J2, A2, B2, ?_, he, hw⟩
  rw [sg_L_law_1475, if_pos r1, if_pos r2, if_pos r3, hL1, mm_aft_v, sg_L_law_1497, if_pos r1, if_pos r2, if_pos r3, hM1, mm_aft_n, sg_L_law_1521, sp0_thrown, mm_aft_v, sg_L_law_1525, h39, if_pos (show i32 kk = i32 kk from rfl)]
theorem lc_think (hi : i + 5 ≤ Ln) (hL : Ln ≤ 2560) (st : ∀ (x1 : Int32), StG vI oI c e I J A B f_L_think [.ref 0, .int x1, .ref 64] f_X11_think [.ref 39, .int x1]) : LwS Ln xs c e I J A B 1535 i := by
  intro o5 o6 o7
  obtain ⟨e', kk, v, I1, J1, A1, B1, I2, J2, A2, B2, h4, hL1, hM1, h39, hout, he, hw⟩ := st ((xs ((i32 i + (1 : Int32))).toInt.toNat))
  have r1 : 0 ≤ (i32 i + (1 : Int32)).toInt ∧ (i32 i + (1 : Int32)).toInt < (Ln : Int) := sc_in (d := 1) hL hi (by decide)
  refine ⟨some (.int (i32 kk)), some (.int v), o7, e', I2, J2, A2, B2, ?_, he, hw⟩
  rw [sg_L_law_1535, if_pos r1, hL1, mm_aft_v, sg_L_law_1546, if_pos r1, hM1, mm_aft_v, sg_L_law_1558, sp0_thrown, mm_aft_v, sg_L_law_1564, h39, if_pos (show i32 kk = i32 kk from rfl)]
  by_cases k0 : kk = 0
  · rw [if_pos (show i32 kk = 0 by rw [k0]; rfl), z0, if_pos (show B2 64 0 = v.toInt64 from hout k0), sg_L_law_1588]
  · rw [if_neg (i32_nz h4 k0), sg_L_law_1588]
theorem lc_clock (hi : i + 5 ≤ Ln) (hL : Ln ≤ 2560) (st : ∀ (x1 : Int32) (x2 : Int32), StG vI oI c e I J A B f_L_clock [.ref 0, .int x1, .int x2, .ref 64] f_X11_clock [.ref 39, .int x1, .int x2]) : LwS Ln xs c e I J A B 1591 i := by
  intro o5 o6 o7
  obtain ⟨e', kk, v, I1, J1, A1, B1, I2, J2, A2, B2, h4, hL1, hM1, h39, hout, he, hw⟩ := st ((xs ((i32 i + (1 : Int32))).toInt.toNat)) ((xs ((i32 i + (2 : Int32))).toInt.toNat))
  have r1 : 0 ≤ (i32 i + (1 : Int32)).toInt ∧ (i32 i + (1 : Int32)).toInt < (Ln : Int) := sc_in (d := 1) hL hi (by decide)
  have r2 : 0 ≤ (i32 i + (2 : Int32)).toInt ∧ (i32 i + (2 : Int32)).toInt < (Ln : Int) := sc_in (d := 2) hL hi (by decide)
  refine ⟨some (.int (i32 kk)), some (.int v), o7, e', I2, J2, A2, B2, ?_, he, hw⟩
  rw [sg_L_law_1591, if_pos r1, if_pos r2, hL1, mm_aft_v, sg_L_law_1608, if_pos r1, if_pos r2, hM1, mm_aft_v, sg_L_law_1626, sp0_thrown, mm_aft_v, sg_L_law_1632, h39, if_pos (show i32 kk = i32 kk from rfl)]
  by_cases k0 : kk = 0
  · rw [if_pos (show i32 kk = 0 by rw [k0]; rfl), z0, if_pos (show B2 64 0 = v.toInt64 from hout k0), sg_L_law_1656]
  · rw [if_neg (i32_nz h4 k0), sg_L_law_1656]
theorem lc_person (st : StG vI oI c e I J A B f_L_person [.ref 0, .ref 64] f_X11_person [.ref 39]) : LwS Ln xs c e I J A B 1659 i := by
  intro o5 o6 o7
  obtain ⟨e', kk, v, I1, J1, A1, B1, I2, J2, A2, B2, h4, hL1, hM1, h39, hout, he, hw⟩ := st
  refine ⟨some (.int (i32 kk)), some (.int v), o7, e', I2, J2, A2, B2, ?_, he, hw⟩
  rw [sg_L_law_1659, hL1, mm_aft_v, sg_L_law_1664, hM1, mm_aft_v, sg_L_law_1670, sp0_thrown, mm_aft_v, sg_L_law_1676, h39, if_pos (show i32 kk = i32 kk from rfl)]
  by_cases k0 : kk = 0
  · rw [if_pos (show i32 kk = 0 by rw [k0]; rfl), z0, if_pos (show B2 64 0 = v.toInt64 from hout k0), sg_L_law_1700]
  · rw [if_neg (i32_nz h4 k0), sg_L_law_1700]
theorem lc_record (hi : i + 5 ≤ Ln) (hL : Ln ≤ 2560) (st : ∀ (x1 : Int32) (x2 : Int32), StG vI oI c e I J A B f_L_record [.ref 0, .int x1, .int x2, .ref 64] f_X11_record [.ref 39, .int x1, .int x2]) : LwS Ln xs c e I J A B 1703 i := by
  intro o5 o6 o7
  obtain ⟨e', kk, v, I1, J1, A1, B1, I2, J2, A2, B2, h4, hL1, hM1, h39, hout, he, hw⟩ := st ((xs ((i32 i + (1 : Int32))).toInt.toNat)) ((xs ((i32 i + (2 : Int32))).toInt.toNat))
  have r1 : 0 ≤ (i32 i + (1 : Int32)).toInt ∧ (i32 i + (1 : Int32)).toInt < (Ln : Int) := sc_in (d := 1) hL hi (by decide)
  have r2 : 0 ≤ (i32 i + (2 : Int32)).toInt ∧ (i32 i + (2 : Int32)).toInt < (Ln : Int) := sc_in (d := 2) hL hi (by decide)
  refine ⟨some (.int (i32 kk)), some (.int v), o7, e', I2, J2, A2, B2, ?_, he, hw⟩
  rw [sg_L_law_1703, if_pos r1, if_pos r2, hL1, mm_aft_v, sg_L_law_1720, if_pos r1, if_pos r2, hM1, mm_aft_v, sg_L_law_1738, sp0_thrown, mm_aft_v, sg_L_law_1744, h39, if_pos (show i32 kk = i32 kk from rfl)]
  by_cases k0 : kk = 0
  · rw [if_pos (show i32 kk = 0 by rw [k0]; rfl), z0, if_pos (show B2 64 0 = v.toInt64 from hout k0), sg_L_law_1768]
  · rw [if_neg (i32_nz h4 k0), sg_L_law_1768]
theorem lc_ofPerson (hi : i + 5 ≤ Ln) (hL : Ln ≤ 2560) (st : ∀ (x1 : Int32) (x2 : Int32), StG vI oI c e I J A B f_L_ofPerson [.ref 0, .int x1, .int x2, .ref 64] f_X11_ofPerson [.ref 39, .int x1, .int x2]) : LwS Ln xs c e I J A B 1771 i := by
  intro o5 o6 o7
  obtain ⟨e', kk, v, I1, J1, A1, B1, I2, J2, A2, B2, h4, hL1, hM1, h39, hout, he, hw⟩ := st ((xs ((i32 i + (1 : Int32))).toInt.toNat)) ((xs ((i32 i + (2 : Int32))).toInt.toNat))
  have r1 : 0 ≤ (i32 i + (1 : Int32)).toInt ∧ (i32 i + (1 : Int32)).toInt < (Ln : Int) := sc_in (d := 1) hL hi (by decide)
  have r2 : 0 ≤ (i32 i + (2 : Int32)).toInt ∧ (i32 i + (2 : Int32)).toInt < (Ln : Int) := sc_in (d := 2) hL hi (by decide)
  refine ⟨some (.int (i32 kk)), some (.int v), o7, e', I2, J2, A2, B2, ?_, he, hw⟩
  rw [sg_L_law_1771, if_pos r1, if_pos r2, hL1, mm_aft_v, sg_L_law_1788, if_pos r1, if_pos r2, hM1, mm_aft_v, sg_L_law_1806, sp0_thrown, mm_aft_v, sg_L_law_1812, h39, if_pos (show i32 kk = i32 kk from rfl)]
  by_cases k0 : kk = 0
  · rw [if_pos (show i32 kk = 0 by rw [k0]; rfl), z0, if_pos (show B2 64 0 = v.toInt64 from hout k0), sg_L_law_1836]
  · rw [if_neg (i32_nz h4 k0), sg_L_law_1836]
end
