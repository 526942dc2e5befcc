/-! the constructors: fields that hold references as a list; the first world -/
def RR (l : List (Nat × Nat × Nat)) : Nat → Nat → Value := fun k p => match l.find? (fun q => Nat.beq q.1 k && Nat.beq q.2.1 p) with
  | some q => .ref q.2.2
  | none => .null
theorem RR_up (l : List (Nat × Nat × Nat)) (k p v : Nat) : mm_up (RR l) k p (.ref v) = RR ((k, p, v) :: l) := by
  funext i j
  unfold mm_up RR
  cases hb : (Nat.beq k i && Nat.beq p j) with
  | true =>
    have h := Bool.and_eq_true_iff.mp hb
    simp only [List.find?_cons, hb]
    rw [if_pos (Nat.eq_of_beq_eq_true h.1).symm, if_pos (Nat.eq_of_beq_eq_true h.2).symm]
  | false =>
    simp only [List.find?_cons, hb]
    by_cases h1 : i = k
    · by_cases h2 : j = p
      · subst h1
        subst h2
        rw [Nat.beq_refl, Nat.beq_refl] at hb
        cases hb
      · rw [if_pos h1, if_neg h2]
    · rw [if_neg h1]
theorem RR_nu {l : List (Nat × Nat × Nat)} {k p : Nat} (h : ∀ q ∈ l, ¬ (q.1 = k ∧ q.2.1 = p)) : RR l k p = .null := by
  have : l.find? (fun q => Nat.beq q.1 k && Nat.beq q.2.1 p) = none := by
    rw [List.find?_eq_none]
    intro q hq hb
    have hb := Bool.and_eq_true_iff.mp hb
    exact h q hq ⟨Nat.eq_of_beq_eq_true hb.1, Nat.eq_of_beq_eq_true hb.2⟩
  unfold RR
  rw [this]
theorem RR_z (l : List (Nat × Nat × Nat)) (n : Nat) (h : l.all (fun q => !Nat.beq q.1 n) = true) : mm_zR (RR l) n = RR l := by
  funext i j
  unfold mm_zR
  by_cases hi : i = n
  · rw [if_pos hi, RR_nu (fun q hq hb => ?_)]
    have this : (!Nat.beq q.1 n) = true := List.all_eq_true.mp h q hq
    rw [hb.1, hi, Nat.beq_refl] at this
    cases this
  · rw [if_neg hi]
def veq : Value → Value → Bool
  | .null, .null => true
  | .ref a, .ref b => Nat.beq a b
  | _, _ => false
theorem veq_eq {a b : Value} (h : veq a b = true) : a = b := by
  unfold veq at h
  split at h
  · rfl
  · rw [Nat.eq_of_beq_eq_true h]
  · cases h
theorem getD_hi {α : Type} (l : List α) (n : Nat) (d : α) (h : l.length ≤ n) : l.getD n d = d := by
  rw [List.getD_eq_getElem?_getD, List.getElem?_eq_none h]
  rfl
theorem R0_len (k : Nat) : (mm_R0L.getD k []).length ≤ 41 := by
  by_cases h : k < 79
  · exact (by decide +kernel : ∀ k : Fin 79, (mm_R0L.getD k.1 []).length ≤ 41) ⟨k, h⟩
  · have e : mm_R0L.getD k [] = [] := getD_hi _ _ _ (Nat.le_of_not_lt h)
    rw [e]
    decide
theorem R0_p {k p : Nat} (h : 41 ≤ p) : mm_R0 k p = .null := by
  unfold mm_R0
  exact getD_hi _ _ _ (Nat.le_trans (R0_len k) h)
theorem R0_k {k p : Nat} (h : 79 ≤ k) : mm_R0 k p = .null := by
  unfold mm_R0
  rw [show mm_R0L.getD k [] = [] from getD_hi _ _ _ h]
  rfl
theorem RR_at {l : List (Nat × Nat × Nat)} {k : Nat} (h1 : (List.range 41).all (fun p => veq (RR l k p) (mm_R0 k p)) = true) (h2 : l.all (fun q => Nat.blt q.2.1 41) = true) (p : Nat) : RR l k p = mm_R0 k p := by
  by_cases hp : p < 41
  · exact veq_eq (List.all_eq_true.mp h1 p (List.mem_range.2 hp))
  · rw [R0_p (by omega), RR_nu (fun q hq hb => ?_)]
    have this : Nat.blt q.2.1 41 = true := List.all_eq_true.mp h2 q hq
    have this := Nat.blt_eq.mp this
    omega
theorem RR_full {l : List (Nat × Nat × Nat)} (h1 : (List.range 79).all (fun k => (List.range 41).all (fun p => veq (RR l k p) (mm_R0 k p))) = true) (h2 : l.all (fun q => Nat.blt q.2.1 41) = true) (h3 : l.all (fun q => Nat.blt q.1 79) = true) : RR l = mm_R0 := by
  funext k p
  by_cases hk : k < 79
  · exact RR_at (List.all_eq_true.mp h1 k (List.mem_range.2 hk)) h2 p
  · rw [R0_k (by omega), RR_nu (fun q hq hb => ?_)]
    have this : Nat.blt q.1 79 = true := List.all_eq_true.mp h3 q hq
    have this := Nat.blt_eq.mp this
    omega
theorem RR_B {l : List (Nat × Nat × Nat)} (h : ∀ p, RR l 1 p = mm_R0 1 p) : mm_RB (RR l) = RR l := by
  funext k p
  unfold mm_RB
  cases hb : Nat.beq k 1 with
  | true => rw [Nat.eq_of_beq_eq_true hb]; exact (h p).symm
  | false => rfl
theorem RR_P {l : List (Nat × Nat × Nat)} (h : ∀ p, RR l 1 p = mm_R0 1 p) (h7 : ∀ p, RR l 7 p = mm_R0 7 p) : mm_RP (RR l) = RR l := by
  funext k p
  unfold mm_RP
  cases hb : Nat.beq k 1 with
  | true => rw [Nat.eq_of_beq_eq_true hb]; exact (h p).symm
  | false =>
    cases hc : Nat.beq k 7 with
    | true => rw [Nat.eq_of_beq_eq_true hc]; exact (h7 p).symm
    | false => rfl
theorem zI_ne (I : Nat → Nat → Int32) (n i : Nat) (h : i ≠ n) : mm_zI I n i = I i := by
  funext j
  exact if_neg h
theorem zJ_ne (I : Nat → Nat → Int64) (n i : Nat) (h : i ≠ n) : mm_zJ I n i = I i := by
  funext j
  exact if_neg h
theorem zA_ne (I : Nat → Nat → Int32) (n i : Nat) (h : i ≠ n) : mm_zA I n i = I i := by
  funext j
  exact if_neg h
theorem zB_ne (I : Nat → Nat → Int64) (n i : Nat) (h : i ≠ n) : mm_zB I n i = I i := by
  funext j
  exact if_neg h
theorem zI_eq (I : Nat → Nat → Int32) (n j : Nat) : mm_zI I n n j = i32 0 := if_pos rfl
theorem zA_eq (I : Nat → Nat → Int32) (n j : Nat) : mm_zA I n n j = i32 0 := if_pos rfl
theorem sh1_t : ∀ n : Fin 512, i32 n.1 >>> ((1 : Int32) &&& 31) = i32 (n.1 / 2) := by decide +kernel
theorem ter_half : ∀ n : Fin 512, ter n.1 = 3 * ter (n.1 / 2) + n.1 % 2 := by decide +kernel
section
variable (R : Nat → Nat → Value) (e : Nat) (I : Nat → Nat → Int32) (J : Nat → Nat → Int64)
theorem init10_loop (B : Nat → Nat → Int64) : ∀ d n (A : Nat → Nat → Int32), n + d = 512 → 1 ≤ n → (∀ a, a < n → A 12 a = i32 (ter a)) → ∃ A', mm_run (mm_pr tb_X2_init) (23, [some (.ref 10), some (.int (i32 n))], [], (13, e, (mm_up (mm_up R 10 0 (.ref 11)) 10 1 (.ref 12)), I, J, A, B)) = some (.inl none, (13, e, (mm_up (mm_up R 10 0 (.ref 11)) 10 1 (.ref 12)), I, J, A', B)) ∧ (∀ a, a < 512 → A' 12 a = i32 (ter a)) ∧ (∀ i, i ≠ 12 → A' i = A i) := by
  intro d
  induction d with
  | zero =>
    intro n A hd h1 hA
    refine ⟨A, ?_, fun a ha => hA a (by omega), fun _ _ => rfl⟩
    rw [sg_X2_init_10_23, if_neg (show ¬ i32 n < (512 : Int32) by rw [show (512 : Int32) = i32 512 from rfl, i32_lt (by omega) (by decide)]; omega)]
  | succ d ih =>
    intro n A hd h1 hA
    have t : i32 n >>> ((1 : Int32) &&& 31) = i32 (n / 2) := sh1_t ⟨n, by omega⟩
    have tt : ter n = 3 * ter (n / 2) + n % 2 := ter_half ⟨n, by omega⟩
    obtain ⟨A', a1, a2, a3⟩ := ih (n + 1) (mm_up A 12 n (i32 (ter n))) (by omega) (by omega) (fun a ha => by
      by_cases q : a = n
      · subst q; exact mm_up_eq _ _ _ _
      · rw [mm_up_ne2 _ _ _ _ _ _ q]; exact hA a (by omega))
    refine ⟨A', ?_, a2, fun i hi => by rw [a3 i hi, mm_up_row _ _ _ _ _ hi]⟩
    rw [sg_X2_init_10_23, if_pos (show i32 n < (512 : Int32) by rw [show (512 : Int32) = i32 512 from rfl, i32_lt (by omega) (by decide)]; omega), t, if_pos (show 0 ≤ (i32 (n / 2)).toInt ∧ (i32 (n / 2)).toInt < 512 from (i32_in (by omega)).2 (by omega)), if_pos (show 0 ≤ (i32 n).toInt ∧ (i32 n).toInt < 512 from (i32_in (by omega)).2 (by omega)), i32_ix (a := n / 2) (by omega), i32_ix (a := n) (by omega), hA (n / 2) (by omega), show i32 n + (1 : Int32) = i32 (n + 1) from i32_add n 1, show (3 : Int32) * i32 (ter (n / 2)) + (i32 n &&& (1 : Int32)) = i32 (ter n) by rw [tt, show (3 : Int32) = i32 3 from rfl, show (1 : Int32) = i32 1 from rfl, i32_and1 (by omega), i32_mul, i32_add]]
    exact a1
theorem sp_X2_init_10 (A : Nat → Nat → Int32) (B : Nat → Nat → Int64) : ∃ A', f_X2_init [.ref 10] (11, e, R, I, J, A, B) = some (.inl none, (13, e, (mm_up (mm_up R 10 0 (.ref 11)) 10 1 (.ref 12)), I, J, A', mm_zB (mm_zB B 11) 12)) ∧ (∀ a, a < 512 → A' 12 a = i32 (ter a)) ∧ (∀ i, i ≠ 11 → i ≠ 12 → A' i = A i) := by
  obtain ⟨A', a1, a2, a3⟩ := init10_loop R e I J (mm_zB (mm_zB B 11) 12) 511 1 (mm_zA (mm_zA A 11) 12) rfl (by decide) (fun a ha => by
    have : a = 0 := by omega
    subst this
    rfl)
  refine ⟨A', ?_, a2, fun i h1 h2 => by rw [a3 i h2, zA_ne _ _ _ h2, zA_ne _ _ _ h1]⟩
  rw [en_X2_init_10, sg_X2_init_10_0]
  exact a1
theorem init16_loop (B : Nat → Nat → Int64) : ∀ d n (A : Nat → Nat → Int32), n + d = 512 → 1 ≤ n → (∀ a, a < n → A 18 a = i32 (ter a)) → ∃ A', mm_run (mm_pr tb_X2_init) (23, [some (.ref 16), some (.int (i32 n))], [], (19, e, (mm_up (mm_up R 16 0 (.ref 17)) 16 1 (.ref 18)), I, J, A, B)) = some (.inl none, (19, e, (mm_up (mm_up R 16 0 (.ref 17)) 16 1 (.ref 18)), I, J, A', B)) ∧ (∀ a, a < 512 → A' 18 a = i32 (ter a)) ∧ (∀ i, i ≠ 18 → A' i = A i) := by
  intro d
  induction d with
  | zero =>
    intro n A hd h1 hA
    refine ⟨A, ?_, fun a ha => hA a (by omega), fun _ _ => rfl⟩
    rw [sg_X2_init_16_23, if_neg (show ¬ i32 n < (512 : Int32) by rw [show (512 : Int32) = i32 512 from rfl, i32_lt (by omega) (by decide)]; omega)]
  | succ d ih =>
    intro n A hd h1 hA
    have t : i32 n >>> ((1 : Int32) &&& 31) = i32 (n / 2) := sh1_t ⟨n, by omega⟩
    have tt : ter n = 3 * ter (n / 2) + n % 2 := ter_half ⟨n, by omega⟩
    obtain ⟨A', a1, a2, a3⟩ := ih (n + 1) (mm_up A 18 n (i32 (ter n))) (by omega) (by omega) (fun a ha => by
      by_cases q : a = n
      · subst q; exact mm_up_eq _ _ _ _
      · rw [mm_up_ne2 _ _ _ _ _ _ q]; exact hA a (by omega))
    refine ⟨A', ?_, a2, fun i hi => by rw [a3 i hi, mm_up_row _ _ _ _ _ hi]⟩
    rw [sg_X2_init_16_23, if_pos (show i32 n < (512 : Int32) by rw [show (512 : Int32) = i32 512 from rfl, i32_lt (by omega) (by decide)]; omega), t, if_pos (show 0 ≤ (i32 (n / 2)).toInt ∧ (i32 (n / 2)).toInt < 512 from (i32_in (by omega)).2 (by omega)), if_pos (show 0 ≤ (i32 n).toInt ∧ (i32 n).toInt < 512 from (i32_in (by omega)).2 (by omega)), i32_ix (a := n / 2) (by omega), i32_ix (a := n) (by omega), hA (n / 2) (by omega), show i32 n + (1 : Int32) = i32 (n + 1) from i32_add n 1, show (3 : Int32) * i32 (ter (n / 2)) + (i32 n &&& (1 : Int32)) = i32 (ter n) by rw [tt, show (3 : Int32) = i32 3 from rfl, show (1 : Int32) = i32 1 from rfl, i32_and1 (by omega), i32_mul, i32_add]]
    exact a1
theorem sp_X2_init_16 (A : Nat → Nat → Int32) (B : Nat → Nat → Int64) : ∃ A', f_X2_init [.ref 16] (17, e, R, I, J, A, B) = some (.inl none, (19, e, (mm_up (mm_up R 16 0 (.ref 17)) 16 1 (.ref 18)), I, J, A', mm_zB (mm_zB B 17) 18)) ∧ (∀ a, a < 512 → A' 18 a = i32 (ter a)) ∧ (∀ i, i ≠ 17 → i ≠ 18 → A' i = A i) := by
  obtain ⟨A', a1, a2, a3⟩ := init16_loop R e I J (mm_zB (mm_zB B 17) 18) 511 1 (mm_zA (mm_zA A 17) 18) rfl (by decide) (fun a ha => by
    have : a = 0 := by omega
    subst this
    rfl)
  refine ⟨A', ?_, a2, fun i h1 h2 => by rw [a3 i h2, zA_ne _ _ _ h2, zA_ne _ _ _ h1]⟩
  rw [en_X2_init_16, sg_X2_init_16_0]
  exact a1
theorem sp_X0_init (A : Nat → Nat → Int32) (B : Nat → Nat → Int64) : ∃ A' B', f_X0_init [.ref 9, .ref 1] (10, e, R, I, J, A, B) = some (.inl none, (15, e, (mm_up (mm_up (mm_up (mm_up (mm_up (mm_up (mm_zR R 10) 10 0 (.ref 11)) 10 1 (.ref 12)) 9 1 (.ref 10)) 9 2 (.ref 13)) 9 3 (.ref 14)) 9 0 (.ref 1)), mm_zI I 10, mm_zJ J 10, A', B')) ∧ (∀ a, a < 512 → A' 12 a = i32 (ter a)) ∧ (∀ i, i ≠ 11 → i ≠ 12 → i ≠ 13 → i ≠ 14 → A' i = A i) ∧ (∀ i, i ≠ 11 → i ≠ 12 → i ≠ 13 → i ≠ 14 → B' i = B i) := by
  obtain ⟨A1, a1, a2, a3⟩ := sp_X2_init_10 (mm_zR R 10) e (mm_zI I 10) (mm_zJ J 10) A B
  refine ⟨mm_zA (mm_zA A1 13) 14, mm_zB (mm_zB (mm_zB (mm_zB B 11) 12) 13) 14, ?_, fun a ha => ?_, fun i h1 h2 h3 h4 => ?_, fun i h1 h2 h3 h4 => ?_⟩
  · rw [en_X0_init, sg_X0_init_0, a1, mm_aft_n, sg_X0_init_12]
  · rw [zA_ne _ _ _ (by decide), zA_ne _ _ _ (by decide)]
    exact a2 a ha
  · rw [zA_ne _ _ _ h4, zA_ne _ _ _ h3, a3 i h1 h2]
  · rw [zB_ne _ _ _ h4, zB_ne _ _ _ h3, zB_ne _ _ _ h2, zB_ne _ _ _ h1]
theorem sp_X4_init (A : Nat → Nat → Int32) (B : Nat → Nat → Int64) : ∃ A' B', f_X4_init [.ref 15, .ref 1] (16, e, R, I, J, A, B) = some (.inl none, (21, e, (mm_up (mm_up (mm_up (mm_up (mm_up (mm_up (mm_zR R 16) 16 0 (.ref 17)) 16 1 (.ref 18)) 15 1 (.ref 16)) 15 2 (.ref 19)) 15 3 (.ref 20)) 15 0 (.ref 1)), mm_zI I 16, mm_zJ J 16, A', B')) ∧ (∀ a, a < 512 → A' 18 a = i32 (ter a)) ∧ (∀ i, i ≠ 17 → i ≠ 18 → i ≠ 19 → i ≠ 20 → A' i = A i) ∧ (∀ i, i ≠ 17 → i ≠ 18 → i ≠ 19 → i ≠ 20 → B' i = B i) := by
  obtain ⟨A1, a1, a2, a3⟩ := sp_X2_init_16 (mm_zR R 16) e (mm_zI I 16) (mm_zJ J 16) A B
  refine ⟨mm_zA (mm_zA A1 19) 20, mm_zB (mm_zB (mm_zB (mm_zB B 17) 18) 19) 20, ?_, fun a ha => ?_, fun i h1 h2 h3 h4 => ?_, fun i h1 h2 h3 h4 => ?_⟩
  · rw [en_X4_init, sg_X4_init_0, a1, mm_aft_n, sg_X4_init_12]
  · rw [zA_ne _ _ _ (by decide), zA_ne _ _ _ (by decide)]
    exact a2 a ha
  · rw [zA_ne _ _ _ h4, zA_ne _ _ _ h3, a3 i h1 h2]
  · rw [zB_ne _ _ _ h4, zB_ne _ _ _ h3, zB_ne _ _ _ h2, zB_ne _ _ _ h1]
end
def lC : List (Nat × Nat × Nat) := [(0, 8, 34), (34, 3, 38), (34, 2, 37), (34, 1, 36), (34, 0, 35), (0, 7, 30), (30, 2, 33), (30, 1, 32), (30, 0, 31), (0, 6, 24), (24, 0, 1), (24, 5, 29), (24, 4, 28), (24, 3, 27), (24, 2, 26), (24, 1, 25), (0, 5, 23), (23, 0, 1), (0, 4, 21), (21, 0, 1), (21, 1, 22), (0, 3, 15), (15, 0, 1), (15, 3, 20), (15, 2, 19), (15, 1, 16), (16, 1, 18), (16, 0, 17), (0, 2, 9), (9, 0, 1), (9, 3, 14), (9, 2, 13), (9, 1, 10), (10, 1, 12), (10, 0, 11), (0, 1, 7), (0, 0, 1), (7, 0, 1), (7, 1, 8), (1, 4, 6), (1, 3, 5), (1, 2, 4), (1, 1, 3), (1, 0, 2)]
theorem cC_init (e : Nat) (I : Nat → Nat → Int32) (J : Nat → Nat → Int64) (A : Nat → Nat → Int32) (B : Nat → Nat → Int64) : ∃ I' J' A' B', f_X10_init [.ref 0] (1, e, RR [], mm_zI I 0, mm_zJ J 0, A, B) = some (.inl none, (39, e, RR lC, I', J', A', B')) ∧ CG 0 2 2 (fun _ => 0) 0 false I' J' A' B' ∧ TC 0 false (fun _ => 0) (fun _ => 0) (fun _ => 0) 0 I' A' ∧ I' 0 9 = bi false ∧ I' 24 6 = i32 0 ∧ I' 24 7 = i32 0 ∧ I' 34 4 = i32 0 ∧ (∀ p, A' 37 p = i32 0 ∧ A' 38 p = i32 0) := by
  obtain ⟨I1, J1, A1, B1, a1, a2, a3, a4, a5, a6⟩ := sp_lay 0 (RR [(1, 4, 6), (1, 3, 5), (1, 2, 4), (1, 1, 3), (1, 0, 2)]) e (mm_zI (mm_zI I 0) 1) (mm_zJ (mm_zJ J 0) 1) (K := 0) (R := 2) (C := 2) (by decide) (mm_zA (mm_zA (mm_zA (mm_zA (mm_zA A 2) 3) 4) 5) 6) (mm_zB (mm_zB (mm_zB (mm_zB (mm_zB B 2) 3) 4) 5) 6)
  have b1 : ∀ p, RR [(1, 4, 6), (1, 3, 5), (1, 2, 4), (1, 1, 3), (1, 0, 2)] 1 p = mm_R0 1 p := RR_at (by decide +kernel) (by decide +kernel)
  rw [RR_B b1] at a1
  have a1' : f_X1_lay [.ref 1, .int (0 : Int32), .int (2 : Int32), .int (2 : Int32)] (7, e, RR [(1, 4, 6), (1, 3, 5), (1, 2, 4), (1, 1, 3), (1, 0, 2)], mm_zI (mm_zI I 0) 1, mm_zJ (mm_zJ J 0) 1, (mm_zA (mm_zA (mm_zA (mm_zA (mm_zA A 2) 3) 4) 5) 6), (mm_zB (mm_zB (mm_zB (mm_zB (mm_zB B 2) 3) 4) 5) 6)) = some (.inl none, (7, e, RR [(1, 4, 6), (1, 3, 5), (1, 2, 4), (1, 1, 3), (1, 0, 2)], I1, J1, A1, B1)) := a1
  have cb : CB 0 2 2 (mm_up (mm_zI I1 7) 7 6 (-1)) (mm_zJ J1 7) (mm_zA A1 8) (mm_zB B1 8) := a2.fr (by rw [mm_up_row _ _ _ _ _ (by decide), zI_ne _ _ _ (by decide)]) (zJ_ne _ _ _ (by decide)) (zA_ne _ _ _ (by decide)) (zA_ne _ _ _ (by decide)) (zA_ne _ _ _ (by decide)) (zB_ne _ _ _ (by decide)) (zB_ne _ _ _ (by decide))
  have bg := sp_begin 0 (RR [(7, 0, 1), (7, 1, 8), (1, 4, 6), (1, 3, 5), (1, 2, 4), (1, 1, 3), (1, 0, 2)]) e (mm_up (mm_zI I1 7) 7 6 (-1)) (mm_zJ J1 7) (mm_zA A1 8) (mm_zB B1 8) cb
  rw [RR_P (RR_at (by decide +kernel) (by decide +kernel)) (RR_at (by decide +kernel) (by decide +kernel))] at bg
  obtain ⟨I2, hI2⟩ : ∃ I2, I2 = mm_up (mm_up (mm_up (mm_up (mm_zI I1 7) 7 6 (-1)) 7 2 (i32 0)) 7 3 (i32 0)) 7 6 (jnd 0 2 2 0 0) := ⟨_, rfl⟩
  obtain ⟨J2, hJ2⟩ : ∃ J2, J2 = mm_up (mm_up (mm_zJ J1 7) 7 4 0) 7 5 0 := ⟨_, rfl⟩
  rw [← hI2, ← hJ2] at bg
  have bg' : f_X6_begin [.ref 7] (9, e, RR [(7, 0, 1), (7, 1, 8), (1, 4, 6), (1, 3, 5), (1, 2, 4), (1, 1, 3), (1, 0, 2)], (mm_up (mm_zI I1 7) 7 6 (-1)), mm_zJ J1 7, mm_zA A1 8, mm_zB B1 8) = some (.inl none, (9, e, RR [(7, 0, 1), (7, 1, 8), (1, 4, 6), (1, 3, 5), (1, 2, 4), (1, 1, 3), (1, 0, 2)], I2, J2, mm_zA A1 8, mm_zB B1 8)) := bg
  obtain ⟨A3, B3, c1, c2, c3, c4⟩ := sp_X0_init (RR [(0, 1, 7), (0, 0, 1), (7, 0, 1), (7, 1, 8), (1, 4, 6), (1, 3, 5), (1, 2, 4), (1, 1, 3), (1, 0, 2)]) e (mm_zI I2 9) (mm_zJ J2 9) (mm_zA A1 8) (mm_zB B1 8)
  obtain ⟨A4, B4, d1, d2, d3, d4⟩ := sp_X4_init (RR [(0, 2, 9), (9, 0, 1), (9, 3, 14), (9, 2, 13), (9, 1, 10), (10, 1, 12), (10, 0, 11), (0, 1, 7), (0, 0, 1), (7, 0, 1), (7, 1, 8), (1, 4, 6), (1, 3, 5), (1, 2, 4), (1, 1, 3), (1, 0, 2)]) e (mm_zI (mm_zI (mm_zI I2 9) 10) 15) (mm_zJ (mm_zJ (mm_zJ J2 9) 10) 15) A3 B3
  obtain ⟨I5, hI5⟩ : ∃ I5, I5 = mm_zI (mm_up (mm_zI (mm_zI (mm_zI (mm_zI (mm_zI (mm_zI (mm_zI (mm_zI I2 9) 10) 15) 16) 21) 23) 24) 30) 30 5 (-1)) 34 := ⟨_, rfl⟩
  obtain ⟨J5, hJ5⟩ : ∃ J5, J5 = (mm_zJ (mm_zJ (mm_zJ (mm_zJ (mm_zJ (mm_zJ (mm_zJ (mm_zJ (mm_zJ J2 9) 10) 15) 16) 21) 23) 24) 30) 34) := ⟨_, rfl⟩
  obtain ⟨A5, hA5⟩ : ∃ A5, A5 = (mm_zA (mm_zA (mm_zA (mm_zA (mm_zA (mm_zA (mm_zA (mm_zA (mm_zA (mm_zA (mm_zA (mm_zA (mm_zA A4 22) 25) 26) 27) 28) 29) 31) 32) 33) 35) 36) 37) 38) := ⟨_, rfl⟩
  obtain ⟨B5, hB5⟩ : ∃ B5, B5 = (mm_zB (mm_zB (mm_zB (mm_zB (mm_zB (mm_zB (mm_zB (mm_zB (mm_zB (mm_zB (mm_zB (mm_zB (mm_zB B4 22) 25) 26) 27) 28) 29) 31) 32) 33) 35) 36) 37) 38) := ⟨_, rfl⟩
  have i1 : I5 1 = I1 1 := by rw [hI5, hI2]; simp (disch := decide) only [zI_ne, mm_up_row]
  have i7 : I5 7 = I2 7 := by rw [hI5]; simp (disch := decide) only [zI_ne, mm_up_row]
  have j1 : J5 1 = J1 1 := by rw [hJ5, hJ2]; simp (disch := decide) only [zJ_ne, mm_up_row]
  have j7 : J5 7 = J2 7 := by rw [hJ5]; simp (disch := decide) only [zJ_ne, mm_up_row]
  have aL : ∀ i, i < 8 → A5 i = A1 i := fun i hi => by
    rw [hA5]
    simp (disch := omega) only [zA_ne]
    rw [d3 i (by omega) (by omega) (by omega) (by omega), c3 i (by omega) (by omega) (by omega) (by omega), zA_ne _ _ _ (by omega)]
  have bL : ∀ i, i < 8 → B5 i = B1 i := fun i hi => by
    rw [hB5]
    simp (disch := omega) only [zB_ne]
    rw [d4 i (by omega) (by omega) (by omega) (by omega), c4 i (by omega) (by omega) (by omega) (by omega), zB_ne _ _ _ (by omega)]
  have a12 : ∀ a, a < 512 → A5 12 a = i32 (ter a) := fun a ha => by
    rw [hA5]
    simp (disch := decide) only [zA_ne]
    rw [d3 12 (by decide) (by decide) (by decide) (by decide)]
    exact c2 a ha
  have a18 : ∀ a, a < 512 → A5 18 a = i32 (ter a) := fun a ha => by
    rw [hA5]
    simp (disch := decide) only [zA_ne]
    exact d2 a ha
  have cb5 : CB 0 2 2 I5 J5 A5 B5 := a2.fr i1 j1 (aL 2 (by decide)) (aL 3 (by decide)) (aL 4 (by decide)) (bL 5 (by decide)) (bL 6 (by decide))
  refine ⟨I5, J5, A5, B5, ?_, ⟨cb5, ⟨?_, ?_, by decide, fun i hi => absurd hi (Nat.not_lt_zero _)⟩, ?_, ?_, ?_, ⟨a12, Or.inl ?_⟩, a18⟩, ⟨?_, ?_, ?_, fun p hp => ⟨?_, ?_, ?_⟩⟩, ?_, ?_, ?_, ?_, fun p => ⟨?_, ?_⟩⟩
  · rw [en_X10_init, sg_X10_init_0, RR_z _ 1 (by decide +kernel), en_X1_init, sg_X1_init_0, RR_up, RR_up, RR_up, RR_up, RR_up, mm_aft_n, sg_X10_init_11, a1', mm_aft_n, sg_X10_init_19, RR_z _ 7 (by decide +kernel), en_X6_init, sg_X6_init_0, RR_up, RR_up, mm_aft_n, sg_X10_init_27, bg', mm_aft_n, sg_X10_init_32, RR_up, RR_up, RR_z _ 9 (by decide +kernel), c1, RR_z _ 10 (by decide +kernel), RR_up, RR_up, RR_up, RR_up, RR_up, RR_up, mm_aft_n, sg_X10_init_51, RR_up, RR_z _ 15 (by decide +kernel), d1, RR_z _ 16 (by decide +kernel), RR_up, RR_up, RR_up, RR_up, RR_up, RR_up, mm_aft_n, sg_X10_init_63, RR_up, RR_z _ 21 (by decide +kernel), en_X9_init, sg_X9_init_0, RR_up, RR_up, mm_aft_n, sg_X10_init_75, RR_up, RR_z _ 23 (by decide +kernel), en_X7_init, sg_X7_init_0, RR_up, mm_aft_n, sg_X10_init_87, RR_up, RR_z _ 24 (by decide +kernel), en_X5_init, sg_X5_init_0, RR_up, RR_up, RR_up, RR_up, RR_up, RR_up, mm_aft_n, sg_X10_init_99, RR_up, RR_z _ 30 (by decide +kernel), en_X8_init, sg_X8_init_0, RR_up, RR_up, RR_up, mm_aft_n, sg_X10_init_110, RR_up, RR_z _ 34 (by decide +kernel), en_X3_init, sg_X3_init_0, RR_up, RR_up, RR_up, RR_up, mm_aft_n, sg_X10_init_121, RR_up, ← hI5, ← hJ5, ← hA5, ← hB5]
    rfl
  · rw [i7, hI2, mm_up_ne2 _ _ _ _ _ _ (by decide), mm_up_ne2 _ _ _ _ _ _ (by decide), mm_up_eq]
  · rw [i7, hI2, mm_up_ne2 _ _ _ _ _ _ (by decide), mm_up_eq]; rfl
  · rw [j7, hJ2, mm_up_ne2 _ _ _ _ _ _ (by decide), mm_up_eq]; rfl
  · rw [j7, hJ2, mm_up_eq]; rfl
  · rw [i7, hI2, mm_up_eq]; rfl
  · rw [hI5]; simp (disch := decide) only [zI_ne, mm_up_row]; exact zI_eq _ _ _
  · rw [hI5, zI_ne _ _ _ (by decide), mm_up_ne2 _ _ _ _ _ _ (by decide)]; exact zI_eq _ _ _
  · rw [hI5, zI_ne _ _ _ (by decide), mm_up_ne2 _ _ _ _ _ _ (by decide)]; exact zI_eq _ _ _
  · rw [hI5, zI_ne _ _ _ (by decide), mm_up_eq, if_pos rfl]; rfl
  · rw [hA5]; simp (disch := decide) only [zA_ne]; exact zA_eq _ _ _
  · rw [hA5]; simp (disch := decide) only [zA_ne]; exact zA_eq _ _ _
  · rw [hA5]; simp (disch := decide) only [zA_ne]; exact zA_eq _ _ _
  · rw [hI5, hI2]; simp (disch := decide) only [zI_ne, mm_up_row]; rw [a3 0 (by decide), zI_ne _ _ _ (by decide)]; exact zI_eq _ _ _
  · rw [hI5]; simp (disch := decide) only [zI_ne, mm_up_row]; exact zI_eq _ _ _
  · rw [hI5]; simp (disch := decide) only [zI_ne, mm_up_row]; exact zI_eq _ _ _
  · rw [hI5]; exact zI_eq _ _ _
  · rw [hA5]; simp (disch := decide) only [zA_ne]; exact zA_eq _ _ _
  · rw [hA5]; exact zA_eq _ _ _
