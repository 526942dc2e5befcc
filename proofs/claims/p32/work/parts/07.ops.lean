section ROWS2
variable {x : mm_cx} {Q : State → Prop} {Tg : mm_R} {pc : Nat}
theorem mm_tl1 {v w : Value} {r : List Value} {L : mm_L} (hv : ∀ k, v ≠ .ref k) : ∀ z ∈ v :: r, z ∈ w :: r ∨ (∃ i : Nat, L[i]? = some (some z)) ∨ ∀ k, z ≠ .ref k := fun z h => (List.mem_cons.mp h).elim (fun e => Or.inr (Or.inr (by rw [e]; exact hv))) (fun e => Or.inl (List.mem_cons_of_mem _ e))
theorem mm_tl2 {v w u : Value} {r : List Value} {L : mm_L} (hv : ∀ k, v ≠ .ref k) : ∀ z ∈ v :: r, z ∈ w :: u :: r ∨ (∃ i : Nat, L[i]? = some (some z)) ∨ ∀ k, z ≠ .ref k := fun z h => (List.mem_cons.mp h).elim (fun e => Or.inr (Or.inr (by rw [e]; exact hv))) (fun e => Or.inl (List.mem_cons_of_mem _ (List.mem_cons_of_mem _ e)))
theorem mm_tl1n {w : Value} {r : List Value} {L : mm_L} : ∀ z ∈ r, z ∈ w :: r ∨ (∃ i : Nat, L[i]? = some (some z)) ∨ ∀ k, z ≠ .ref k := fun z e => Or.inl (List.mem_cons_of_mem _ e)
theorem mm_tl2n {w u : Value} {r : List Value} {L : mm_L} : ∀ z ∈ r, z ∈ w :: u :: r ∨ (∃ i : Nat, L[i]? = some (some z)) ∨ ∀ k, z ≠ .ref k := fun z e => Or.inl (List.mem_cons_of_mem _ (List.mem_cons_of_mem _ e))
theorem mm_nlt {a b : Int32} (h : a ≤ b) : ¬ b < a := by
  rw [Int32.lt_iff_toInt_lt]
  rw [Int32.le_iff_toInt_le] at h
  omega
theorem mm_nge {a b : Int32} (h : ¬ a ≤ b) : b < a := by
  rw [Int32.lt_iff_toInt_lt]
  rw [Int32.le_iff_toInt_le] at h
  omega
theorem mm_r_iadd (X : mm_X x) (d : decode (mm_xk x) pc = .ok (.iadd, 1)) : mm_row x Q Tg pc (mm_i2 (pc + 1) (fun a b => a + b)) := by
  refine mm_r_st (fun L st S => ?_)
  unfold mm_i2
  split
  · next y z r => exact Or.inr ⟨pc + 1, _, rfl, mm_tl2 (fun _ h => by cases h), fun ad H locs cells slots ls _ k => lv_iadd X.1 X.2.1 d k⟩
  · exact Or.inl rfl
theorem mm_r_isub (X : mm_X x) (d : decode (mm_xk x) pc = .ok (.isub, 1)) : mm_row x Q Tg pc (mm_i2 (pc + 1) (fun a b => a - b)) := by
  refine mm_r_st (fun L st S => ?_)
  unfold mm_i2
  split
  · next y z r => exact Or.inr ⟨pc + 1, _, rfl, mm_tl2 (fun _ h => by cases h), fun ad H locs cells slots ls _ k => lv_isub X.1 X.2.1 d k⟩
  · exact Or.inl rfl
theorem mm_r_imul (X : mm_X x) (d : decode (mm_xk x) pc = .ok (.imul, 1)) : mm_row x Q Tg pc (mm_i2 (pc + 1) (fun a b => a * b)) := by
  refine mm_r_st (fun L st S => ?_)
  unfold mm_i2
  split
  · next y z r => exact Or.inr ⟨pc + 1, _, rfl, mm_tl2 (fun _ h => by cases h), fun ad H locs cells slots ls _ k => lv_imul X.1 X.2.1 d k⟩
  · exact Or.inl rfl
theorem mm_r_ishl (X : mm_X x) (d : decode (mm_xk x) pc = .ok (.ishl, 1)) : mm_row x Q Tg pc (mm_i2 (pc + 1) (fun a b => a <<< (b &&& 31))) := by
  refine mm_r_st (fun L st S => ?_)
  unfold mm_i2
  split
  · next y z r => exact Or.inr ⟨pc + 1, _, rfl, mm_tl2 (fun _ h => by cases h), fun ad H locs cells slots ls _ k => lv_ishl X.1 X.2.1 d k⟩
  · exact Or.inl rfl
theorem mm_r_ishr (X : mm_X x) (d : decode (mm_xk x) pc = .ok (.ishr, 1)) : mm_row x Q Tg pc (mm_i2 (pc + 1) (fun a b => a >>> (b &&& 31))) := by
  refine mm_r_st (fun L st S => ?_)
  unfold mm_i2
  split
  · next y z r => exact Or.inr ⟨pc + 1, _, rfl, mm_tl2 (fun _ h => by cases h), fun ad H locs cells slots ls _ k => lv_ishr X.1 X.2.1 d k⟩
  · exact Or.inl rfl
theorem mm_r_iand (X : mm_X x) (d : decode (mm_xk x) pc = .ok (.iand, 1)) : mm_row x Q Tg pc (mm_i2 (pc + 1) (fun a b => a &&& b)) := by
  refine mm_r_st (fun L st S => ?_)
  unfold mm_i2
  split
  · next y z r => exact Or.inr ⟨pc + 1, _, rfl, mm_tl2 (fun _ h => by cases h), fun ad H locs cells slots ls _ k => lv_iand X.1 X.2.1 d k⟩
  · exact Or.inl rfl
theorem mm_r_ior (X : mm_X x) (d : decode (mm_xk x) pc = .ok (.ior, 1)) : mm_row x Q Tg pc (mm_i2 (pc + 1) (fun a b => a ||| b)) := by
  refine mm_r_st (fun L st S => ?_)
  unfold mm_i2
  split
  · next y z r => exact Or.inr ⟨pc + 1, _, rfl, mm_tl2 (fun _ h => by cases h), fun ad H locs cells slots ls _ k => lv_ior X.1 X.2.1 d k⟩
  · exact Or.inl rfl
theorem mm_r_ixor (X : mm_X x) (d : decode (mm_xk x) pc = .ok (.ixor, 1)) : mm_row x Q Tg pc (mm_i2 (pc + 1) (fun a b => a ^^^ b)) := by
  refine mm_r_st (fun L st S => ?_)
  unfold mm_i2
  split
  · next y z r => exact Or.inr ⟨pc + 1, _, rfl, mm_tl2 (fun _ h => by cases h), fun ad H locs cells slots ls _ k => lv_ixor X.1 X.2.1 d k⟩
  · exact Or.inl rfl
theorem mm_r_idiv (X : mm_X x) (d : decode (mm_xk x) pc = .ok (.idiv, 1)) : mm_row x Q Tg pc (mm_i3 (pc + 1) (fun a b => a / b)) := by
  refine mm_r_st (fun L st S => ?_)
  unfold mm_i3
  split
  · split
    · exact Or.inl rfl
    · next y z r hne => exact Or.inr ⟨pc + 1, _, rfl, mm_tl2 (fun _ h => by cases h), fun ad H locs cells slots ls _ k => lv_idiv X.1 X.2.1 d hne k⟩
  · exact Or.inl rfl
theorem mm_r_irem (X : mm_X x) (d : decode (mm_xk x) pc = .ok (.irem, 1)) : mm_row x Q Tg pc (mm_i3 (pc + 1) (fun a b => a - a / b * b)) := by
  refine mm_r_st (fun L st S => ?_)
  unfold mm_i3
  split
  · split
    · exact Or.inl rfl
    · next y z r hne => exact Or.inr ⟨pc + 1, _, rfl, mm_tl2 (fun _ h => by cases h), fun ad H locs cells slots ls _ k => lv_irem X.1 X.2.1 d hne k⟩
  · exact Or.inl rfl
theorem mm_r_ladd (X : mm_X x) (d : decode (mm_xk x) pc = .ok (.ladd, 1)) : mm_row x Q Tg pc (mm_l2 (pc + 1) (fun a b => a + b)) := by
  refine mm_r_st (fun L st S => ?_)
  unfold mm_l2
  split
  · next y z r => exact Or.inr ⟨pc + 1, _, rfl, mm_tl2 (fun _ h => by cases h), fun ad H locs cells slots ls _ k => lv_ladd X.1 X.2.1 d k⟩
  · exact Or.inl rfl
theorem mm_r_lsub (X : mm_X x) (d : decode (mm_xk x) pc = .ok (.lsub, 1)) : mm_row x Q Tg pc (mm_l2 (pc + 1) (fun a b => a - b)) := by
  refine mm_r_st (fun L st S => ?_)
  unfold mm_l2
  split
  · next y z r => exact Or.inr ⟨pc + 1, _, rfl, mm_tl2 (fun _ h => by cases h), fun ad H locs cells slots ls _ k => lv_lsub X.1 X.2.1 d k⟩
  · exact Or.inl rfl
theorem mm_r_lmul (X : mm_X x) (d : decode (mm_xk x) pc = .ok (.lmul, 1)) : mm_row x Q Tg pc (mm_l2 (pc + 1) (fun a b => a * b)) := by
  refine mm_r_st (fun L st S => ?_)
  unfold mm_l2
  split
  · next y z r => exact Or.inr ⟨pc + 1, _, rfl, mm_tl2 (fun _ h => by cases h), fun ad H locs cells slots ls _ k => lv_lmul X.1 X.2.1 d k⟩
  · exact Or.inl rfl
theorem mm_r_land (X : mm_X x) (d : decode (mm_xk x) pc = .ok (.land, 1)) : mm_row x Q Tg pc (mm_l2 (pc + 1) (fun a b => a &&& b)) := by
  refine mm_r_st (fun L st S => ?_)
  unfold mm_l2
  split
  · next y z r => exact Or.inr ⟨pc + 1, _, rfl, mm_tl2 (fun _ h => by cases h), fun ad H locs cells slots ls _ k => lv_land X.1 X.2.1 d k⟩
  · exact Or.inl rfl
theorem mm_r_lor (X : mm_X x) (d : decode (mm_xk x) pc = .ok (.lor, 1)) : mm_row x Q Tg pc (mm_l2 (pc + 1) (fun a b => a ||| b)) := by
  refine mm_r_st (fun L st S => ?_)
  unfold mm_l2
  split
  · next y z r => exact Or.inr ⟨pc + 1, _, rfl, mm_tl2 (fun _ h => by cases h), fun ad H locs cells slots ls _ k => lv_lor X.1 X.2.1 d k⟩
  · exact Or.inl rfl
theorem mm_r_lxor (X : mm_X x) (d : decode (mm_xk x) pc = .ok (.lxor, 1)) : mm_row x Q Tg pc (mm_l2 (pc + 1) (fun a b => a ^^^ b)) := by
  refine mm_r_st (fun L st S => ?_)
  unfold mm_l2
  split
  · next y z r => exact Or.inr ⟨pc + 1, _, rfl, mm_tl2 (fun _ h => by cases h), fun ad H locs cells slots ls _ k => lv_lxor X.1 X.2.1 d k⟩
  · exact Or.inl rfl
theorem mm_r_ldiv (X : mm_X x) (d : decode (mm_xk x) pc = .ok (.ldiv, 1)) : mm_row x Q Tg pc (mm_l3 (pc + 1) (fun a b => a / b)) := by
  refine mm_r_st (fun L st S => ?_)
  unfold mm_l3
  split
  · split
    · exact Or.inl rfl
    · next y z r hne => exact Or.inr ⟨pc + 1, _, rfl, mm_tl2 (fun _ h => by cases h), fun ad H locs cells slots ls _ k => lv_ldiv X.1 X.2.1 d hne k⟩
  · exact Or.inl rfl
theorem mm_r_lrem (X : mm_X x) (d : decode (mm_xk x) pc = .ok (.lrem, 1)) : mm_row x Q Tg pc (mm_l3 (pc + 1) (fun a b => a - a / b * b)) := by
  refine mm_r_st (fun L st S => ?_)
  unfold mm_l3
  split
  · split
    · exact Or.inl rfl
    · next y z r hne => exact Or.inr ⟨pc + 1, _, rfl, mm_tl2 (fun _ h => by cases h), fun ad H locs cells slots ls _ k => lv_lrem X.1 X.2.1 d hne k⟩
  · exact Or.inl rfl
theorem mm_r_iushr (X : mm_X x) (d : decode (mm_xk x) pc = .ok (.iushr, 1)) : mm_row x Q Tg pc (mm_i2 (pc + 1) (fun a b => (a.toUInt32 >>> (b.toUInt32 &&& Int32.toUInt32 31)).toInt32)) := by
  refine mm_r_st (fun L st S => ?_)
  unfold mm_i2
  split
  · next y z r => exact Or.inr ⟨pc + 1, _, rfl, mm_tl2 (fun _ h => by cases h), fun ad H locs cells slots ls _ k => lv_iushr X.1 X.2.1 d rfl k⟩
  · exact Or.inl rfl
theorem mm_r_ineg (X : mm_X x) (d : decode (mm_xk x) pc = .ok (.ineg, 1)) : mm_row x Q Tg pc (mm_i1 (pc + 1) (fun a => -a)) := by
  refine mm_r_st (fun L st S => ?_)
  unfold mm_i1
  split
  · next y r => exact Or.inr ⟨pc + 1, _, rfl, mm_tl1 (fun _ h => by cases h), fun ad H locs cells slots ls _ k => lv_ineg X.1 X.2.1 d k⟩
  · exact Or.inl rfl
theorem mm_r_i2b (X : mm_X x) (d : decode (mm_xk x) pc = .ok (.i2b, 1)) : mm_row x Q Tg pc (mm_i1 (pc + 1) (fun a => a.toInt8.toInt32)) := by
  refine mm_r_st (fun L st S => ?_)
  unfold mm_i1
  split
  · next y r => exact Or.inr ⟨pc + 1, _, rfl, mm_tl1 (fun _ h => by cases h), fun ad H locs cells slots ls _ k => lv_i2b X.1 X.2.1 d rfl k⟩
  · exact Or.inl rfl
theorem mm_r_i2c (X : mm_X x) (d : decode (mm_xk x) pc = .ok (.i2c, 1)) : mm_row x Q Tg pc (mm_i1 (pc + 1) (fun a => (a.toUInt32 % 65536).toInt32)) := by
  refine mm_r_st (fun L st S => ?_)
  unfold mm_i1
  split
  · next y r => exact Or.inr ⟨pc + 1, _, rfl, mm_tl1 (fun _ h => by cases h), fun ad H locs cells slots ls _ k => lv_i2c X.1 X.2.1 d rfl k⟩
  · exact Or.inl rfl
theorem mm_r_lneg (X : mm_X x) (d : decode (mm_xk x) pc = .ok (.lneg, 1)) : mm_row x Q Tg pc (mm_l1 (pc + 1) (fun a => -a)) := by
  refine mm_r_st (fun L st S => ?_)
  unfold mm_l1
  split
  · next y r => exact Or.inr ⟨pc + 1, _, rfl, mm_tl1 (fun _ h => by cases h), fun ad H locs cells slots ls _ k => lv_lneg X.1 X.2.1 d k⟩
  · exact Or.inl rfl
theorem mm_r_i2l (X : mm_X x) (d : decode (mm_xk x) pc = .ok (.i2l, 1)) : mm_row x Q Tg pc (mm_il (pc + 1) (fun a => a.toInt64)) := by
  refine mm_r_st (fun L st S => ?_)
  unfold mm_il
  split
  · next y r => exact Or.inr ⟨pc + 1, _, rfl, mm_tl1 (fun _ h => by cases h), fun ad H locs cells slots ls _ k => lv_i2l X.1 X.2.1 d rfl k⟩
  · exact Or.inl rfl
theorem mm_r_l2i (X : mm_X x) (d : decode (mm_xk x) pc = .ok (.l2i, 1)) : mm_row x Q Tg pc (mm_li (pc + 1) (fun a => a.toInt32)) := by
  refine mm_r_st (fun L st S => ?_)
  unfold mm_li
  split
  · next y r => exact Or.inr ⟨pc + 1, _, rfl, mm_tl1 (fun _ h => by cases h), fun ad H locs cells slots ls _ k => lv_l2i X.1 X.2.1 d rfl k⟩
  · exact Or.inl rfl
theorem mm_r_lshl (X : mm_X x) (d : decode (mm_xk x) pc = .ok (.lshl, 1)) : mm_row x Q Tg pc (mm_ls (pc + 1) (fun a b => a <<< (b.toInt64 &&& 63))) := by
  refine mm_r_st (fun L st S => ?_)
  unfold mm_ls
  split
  · next y z r => exact Or.inr ⟨pc + 1, _, rfl, mm_tl2 (fun _ h => by cases h), fun ad H locs cells slots ls _ k => lv_lshl X.1 X.2.1 d rfl k⟩
  · exact Or.inl rfl
theorem mm_r_lshr (X : mm_X x) (d : decode (mm_xk x) pc = .ok (.lshr, 1)) : mm_row x Q Tg pc (mm_ls (pc + 1) (fun a b => a >>> (b.toInt64 &&& 63))) := by
  refine mm_r_st (fun L st S => ?_)
  unfold mm_ls
  split
  · next y z r => exact Or.inr ⟨pc + 1, _, rfl, mm_tl2 (fun _ h => by cases h), fun ad H locs cells slots ls _ k => lv_lshr X.1 X.2.1 d rfl k⟩
  · exact Or.inl rfl
theorem mm_r_lushr (X : mm_X x) (d : decode (mm_xk x) pc = .ok (.lushr, 1)) : mm_row x Q Tg pc (mm_ls (pc + 1) (fun a b => (a.toUInt64 >>> (b.toInt64.toUInt64 &&& Int64.toUInt64 63)).toInt64)) := by
  refine mm_r_st (fun L st S => ?_)
  unfold mm_ls
  split
  · next y z r => exact Or.inr ⟨pc + 1, _, rfl, mm_tl2 (fun _ h => by cases h), fun ad H locs cells slots ls _ k => lv_lushr X.1 X.2.1 d rfl k⟩
  · exact Or.inl rfl
theorem mm_r_lcmp (X : mm_X x) (d : decode (mm_xk x) pc = .ok (.lcmp, 1)) : mm_row x Q Tg pc (mm_cmp (pc + 1)) := by
  refine mm_r_st (fun L st S => ?_)
  unfold mm_cmp
  split
  · next y z r => exact Or.inr ⟨pc + 1, _, rfl, mm_tl2 (fun _ h => by cases h), fun ad H locs cells slots ls _ k => W.lcmp X.1 X.2.1 d k⟩
  · exact Or.inl rfl
theorem mm_r_eq2 (X : mm_X x) {off : Int} {t : Nat} (d : decode (mm_xk x) pc = .ok (.if_icmp .eq off, 3)) (ht : (pc : Int) + off = (t : Int)) : mm_row x Q Tg pc (mm_eq2 t (pc + 3)) := by
  refine mm_r_st (fun L st S => ?_)
  unfold mm_eq2
  split
  · next y z r =>
    refine Or.inr ⟨_, _, rfl, mm_tl2n, fun ad H locs cells slots ls _ k => lv_icmp_eq X.1 X.2.1 d ht (fun c => ?_) (fun c => ?_)⟩
    · rw [if_pos c] at k; exact k
    · rw [if_neg c] at k; exact k
  · exact Or.inl rfl
theorem mm_r_eq1 (X : mm_X x) {off : Int} {t : Nat} (d : decode (mm_xk x) pc = .ok (.ifCond .eq off, 3)) (ht : (pc : Int) + off = (t : Int)) : mm_row x Q Tg pc (mm_eq1 t (pc + 3)) := by
  refine mm_r_st (fun L st S => ?_)
  unfold mm_eq1
  split
  · next z r =>
    refine Or.inr ⟨_, _, rfl, mm_tl1n, fun ad H locs cells slots ls _ k => lv_if_eq X.1 X.2.1 d ht (fun c => ?_) (fun c => ?_)⟩
    · rw [if_pos c] at k; exact k
    · rw [if_neg c] at k; exact k
  · exact Or.inl rfl
theorem mm_r_ne2 (X : mm_X x) {off : Int} {t : Nat} (d : decode (mm_xk x) pc = .ok (.if_icmp .ne off, 3)) (ht : (pc : Int) + off = (t : Int)) : mm_row x Q Tg pc (mm_ne2 t (pc + 3)) := by
  refine mm_r_st (fun L st S => ?_)
  unfold mm_ne2
  split
  · next y z r =>
    refine Or.inr ⟨_, _, rfl, mm_tl2n, fun ad H locs cells slots ls _ k => lv_icmp_ne X.1 X.2.1 d ht (fun c => ?_) (fun c => ?_)⟩
    · rw [if_neg c] at k; exact k
    · rw [if_pos c] at k; exact k
  · exact Or.inl rfl
theorem mm_r_ne1 (X : mm_X x) {off : Int} {t : Nat} (d : decode (mm_xk x) pc = .ok (.ifCond .ne off, 3)) (ht : (pc : Int) + off = (t : Int)) : mm_row x Q Tg pc (mm_ne1 t (pc + 3)) := by
  refine mm_r_st (fun L st S => ?_)
  unfold mm_ne1
  split
  · next z r =>
    refine Or.inr ⟨_, _, rfl, mm_tl1n, fun ad H locs cells slots ls _ k => lv_if_ne X.1 X.2.1 d ht (fun c => ?_) (fun c => ?_)⟩
    · rw [if_neg c] at k; exact k
    · rw [if_pos c] at k; exact k
  · exact Or.inl rfl
theorem mm_r_lt2 (X : mm_X x) {off : Int} {t : Nat} (d : decode (mm_xk x) pc = .ok (.if_icmp .lt off, 3)) (ht : (pc : Int) + off = (t : Int)) : mm_row x Q Tg pc (mm_lt2 t (pc + 3)) := by
  refine mm_r_st (fun L st S => ?_)
  unfold mm_lt2
  split
  · next y z r =>
    refine Or.inr ⟨_, _, rfl, mm_tl2n, fun ad H locs cells slots ls _ k => lv_icmp_lt X.1 X.2.1 d ht (fun c => ?_) (fun c => ?_)⟩
    · rw [if_pos c] at k; exact k
    · rw [if_neg c] at k; exact k
  · exact Or.inl rfl
theorem mm_r_lt1 (X : mm_X x) {off : Int} {t : Nat} (d : decode (mm_xk x) pc = .ok (.ifCond .lt off, 3)) (ht : (pc : Int) + off = (t : Int)) : mm_row x Q Tg pc (mm_lt1 t (pc + 3)) := by
  refine mm_r_st (fun L st S => ?_)
  unfold mm_lt1
  split
  · next z r =>
    refine Or.inr ⟨_, _, rfl, mm_tl1n, fun ad H locs cells slots ls _ k => lv_if_lt X.1 X.2.1 d ht (fun c => ?_) (fun c => ?_)⟩
    · rw [if_pos c] at k; exact k
    · rw [if_neg c] at k; exact k
  · exact Or.inl rfl
theorem mm_r_ge2 (X : mm_X x) {off : Int} {t : Nat} (d : decode (mm_xk x) pc = .ok (.if_icmp .ge off, 3)) (ht : (pc : Int) + off = (t : Int)) : mm_row x Q Tg pc (mm_ge2 t (pc + 3)) := by
  refine mm_r_st (fun L st S => ?_)
  unfold mm_ge2
  split
  · next y z r =>
    refine Or.inr ⟨_, _, rfl, mm_tl2n, fun ad H locs cells slots ls _ k => lv_icmp_ge X.1 X.2.1 d ht (fun c => ?_) (fun c => ?_)⟩
    · rw [if_neg (mm_nlt c)] at k; exact k
    · rw [if_pos (mm_nge c)] at k; exact k
  · exact Or.inl rfl
theorem mm_r_ge1 (X : mm_X x) {off : Int} {t : Nat} (d : decode (mm_xk x) pc = .ok (.ifCond .ge off, 3)) (ht : (pc : Int) + off = (t : Int)) : mm_row x Q Tg pc (mm_ge1 t (pc + 3)) := by
  refine mm_r_st (fun L st S => ?_)
  unfold mm_ge1
  split
  · next z r =>
    refine Or.inr ⟨_, _, rfl, mm_tl1n, fun ad H locs cells slots ls _ k => lv_if_ge X.1 X.2.1 d ht (fun c => ?_) (fun c => ?_)⟩
    · rw [if_neg (mm_nlt c)] at k; exact k
    · rw [if_pos (mm_nge c)] at k; exact k
  · exact Or.inl rfl
theorem mm_r_gt2 (X : mm_X x) {off : Int} {t : Nat} (d : decode (mm_xk x) pc = .ok (.if_icmp .gt off, 3)) (ht : (pc : Int) + off = (t : Int)) : mm_row x Q Tg pc (mm_gt2 t (pc + 3)) := by
  refine mm_r_st (fun L st S => ?_)
  unfold mm_gt2
  split
  · next y z r =>
    refine Or.inr ⟨_, _, rfl, mm_tl2n, fun ad H locs cells slots ls _ k => lv_icmp_gt X.1 X.2.1 d ht (fun c => ?_) (fun c => ?_)⟩
    · rw [if_pos c] at k; exact k
    · rw [if_neg c] at k; exact k
  · exact Or.inl rfl
theorem mm_r_gt1 (X : mm_X x) {off : Int} {t : Nat} (d : decode (mm_xk x) pc = .ok (.ifCond .gt off, 3)) (ht : (pc : Int) + off = (t : Int)) : mm_row x Q Tg pc (mm_gt1 t (pc + 3)) := by
  refine mm_r_st (fun L st S => ?_)
  unfold mm_gt1
  split
  · next z r =>
    refine Or.inr ⟨_, _, rfl, mm_tl1n, fun ad H locs cells slots ls _ k => lv_if_gt X.1 X.2.1 d ht (fun c => ?_) (fun c => ?_)⟩
    · rw [if_pos c] at k; exact k
    · rw [if_neg c] at k; exact k
  · exact Or.inl rfl
theorem mm_r_le2 (X : mm_X x) {off : Int} {t : Nat} (d : decode (mm_xk x) pc = .ok (.if_icmp .le off, 3)) (ht : (pc : Int) + off = (t : Int)) : mm_row x Q Tg pc (mm_le2 t (pc + 3)) := by
  refine mm_r_st (fun L st S => ?_)
  unfold mm_le2
  split
  · next y z r =>
    refine Or.inr ⟨_, _, rfl, mm_tl2n, fun ad H locs cells slots ls _ k => lv_icmp_le X.1 X.2.1 d ht (fun c => ?_) (fun c => ?_)⟩
    · rw [if_neg (mm_nlt c)] at k; exact k
    · rw [if_pos (mm_nge c)] at k; exact k
  · exact Or.inl rfl
theorem mm_r_le1 (X : mm_X x) {off : Int} {t : Nat} (d : decode (mm_xk x) pc = .ok (.ifCond .le off, 3)) (ht : (pc : Int) + off = (t : Int)) : mm_row x Q Tg pc (mm_le1 t (pc + 3)) := by
  refine mm_r_st (fun L st S => ?_)
  unfold mm_le1
  split
  · next z r =>
    refine Or.inr ⟨_, _, rfl, mm_tl1n, fun ad H locs cells slots ls _ k => lv_if_le X.1 X.2.1 d ht (fun c => ?_) (fun c => ?_)⟩
    · rw [if_neg (mm_nlt c)] at k; exact k
    · rw [if_pos (mm_nge c)] at k; exact k
  · exact Or.inl rfl
theorem mm_r_goto (X : mm_X x) {off : Int} {t : Nat} (d : decode (mm_xk x) pc = .ok (.goto off, 3)) (ht : (pc : Int) + off = (t : Int)) : mm_row x Q Tg pc (mm_go t) :=
  mm_r_st (fun _ st _ => Or.inr ⟨t, st, rfl, fun _ h => Or.inl h, fun _ _ _ _ _ _ _ k => lv_goto X.1 X.2.1 d ht k⟩)
theorem mm_r_dup (X : mm_X x) (d : decode (mm_xk x) pc = .ok (.dup, 1)) : mm_row x Q Tg pc (mm_dup (pc + 1)) := by
  refine mm_r_st (fun L st S => ?_)
  unfold mm_dup
  split
  · next v r =>
    cases hc : Nat.beq v.category 1 with
    | false => exact Or.inl rfl
    | true => exact Or.inr ⟨pc + 1, _, rfl, fun z h => Or.inl ((List.mem_cons.mp h).elim (fun e => by rw [e]; exact List.mem_cons_self) id), fun ad H locs cells slots ls _ k => lv_dup X.1 X.2.1 d (by rw [mm_cv_cat]; exact Nat.eq_of_beq_eq_true hc) k⟩
  · exact Or.inl rfl
theorem mm_r_pop (X : mm_X x) (d : decode (mm_xk x) pc = .ok (.pop, 1)) : mm_row x Q Tg pc (mm_pop (pc + 1)) := by
  refine mm_r_st (fun L st S => ?_)
  unfold mm_pop
  split
  · next v r =>
    cases hc : Nat.beq v.category 1 with
    | false => exact Or.inl rfl
    | true => exact Or.inr ⟨pc + 1, _, rfl, mm_tl1n, fun ad H locs cells slots ls _ k => lv_pop X.1 X.2.1 d (by rw [mm_cv_cat]; exact Nat.eq_of_beq_eq_true hc) k⟩
  · exact Or.inl rfl
theorem mm_r_dup2 (X : mm_X x) (d : decode (mm_xk x) pc = .ok (.dup2, 1)) : mm_row x Q Tg pc (mm_dup2 (pc + 1)) := by
  refine mm_r_st (fun L st S => ?_)
  unfold mm_dup2
  split
  · next v w r =>
    cases hc : Nat.beq v.category 1 with
    | false => exact Or.inl rfl
    | true =>
      cases hc2 : Nat.beq w.category 1 with
      | false => exact Or.inl rfl
      | true =>
        refine Or.inr ⟨pc + 1, _, rfl, fun z h => Or.inl ?_, fun ad H locs cells slots ls _ k => lv_dup2_11 X.1 X.2.1 d (by rw [mm_cv_cat]; exact Nat.eq_of_beq_eq_true hc) (by rw [mm_cv_cat]; exact Nat.eq_of_beq_eq_true hc2) k⟩
        rcases List.mem_cons.mp h with e | h
        · rw [e]; exact List.mem_cons_self
        · rcases List.mem_cons.mp h with e | h
          · rw [e]; exact List.mem_cons_of_mem _ List.mem_cons_self
          · exact h
  · exact Or.inl rfl
theorem mm_r_tsw (X : mm_X x) {dflt lo hi : Int} {offs : Array Int} {len dd : Nat} {ts : List Nat} (d : decode (mm_xk x) pc = .ok (.tableswitch dflt lo hi offs, len)) (hd : (pc : Int) + dflt = (dd : Int)) (hlen : (hi - lo).toNat < ts.length) (hts : offs.toList.map (fun o => (pc : Int) + o) = ts.map (fun t : Nat => (t : Int))) : mm_row x Q Tg pc (mm_tsw lo hi dd ts) := by
  refine mm_r_st (fun L st S => ?_)
  unfold mm_tsw
  split
  · next z r =>
    refine Or.inr ⟨_, _, rfl, mm_tl1n, fun ad H locs cells slots ls _ k => ?_⟩
    by_cases c : z.toInt < lo ∨ hi < z.toInt
    · rw [if_pos c] at k
      exact lv_tableOut X.1 X.2.1 d c hd k
    · rw [if_neg c] at k
      have hj : (z.toInt - lo).toNat < ts.length := by omega
      have h1 : (ts.map (fun t : Nat => (t : Int)))[(z.toInt - lo).toNat]? = some ((ts[(z.toInt - lo).toNat]) : Int) := by
        rw [List.getElem?_map, List.getElem?_eq_getElem hj]
        rfl
      rw [← hts, List.getElem?_map] at h1
      cases ho : offs.toList[(z.toInt - lo).toNat]? with
      | none => rw [ho] at h1; cases h1
      | some o =>
        rw [ho] at h1
        have h2 : (pc : Int) + o = (ts[(z.toInt - lo).toNat] : Int) := Option.some.inj h1
        refine lv_tableIn X.1 X.2.1 d (fun h => c (Or.inl h)) (fun h => c (Or.inr h)) (off := o) (by rw [← Array.getElem?_toList]; exact ho) h2 ?_
        rw [List.getD_eq_getElem?_getD, List.getElem?_eq_getElem hj] at k
        exact k
  · exact Or.inl rfl
theorem mm_lsf_eq {pc dd : Nat} {dflt : Int} (hd : (pc : Int) + dflt = (dd : Int)) (z : Int) : ∀ (ps : List (Int × Int)) (ts : List (Int × Nat)), ps.map (fun q => (q.1, (pc : Int) + q.2)) = ts.map (fun q => (q.1, (q.2 : Int))) → (pc : Int) + Op.lookupswitch.offset ps dflt z = (mm_lsf z dd ts : Int) := by
  intro ps
  induction ps with
  | nil =>
    intro ts h
    cases ts with
    | nil => exact hd
    | cons _ _ => cases h
  | cons q r ih =>
    intro ts h
    cases ts with
    | nil => cases h
    | cons u v =>
      rw [List.map_cons, List.map_cons] at h
      obtain ⟨h1, h2⟩ := List.cons.inj h
      obtain ⟨a, o⟩ := q
      obtain ⟨a2, o2⟩ := u
      obtain ⟨e1, e2⟩ := Prod.mk.inj h1
      have e1 : a = a2 := e1
      have e2 : (pc : Int) + o = (o2 : Int) := e2
      subst e1
      show (pc : Int) + (if a = z then o else Op.lookupswitch.offset r dflt z) = ((if a = z then o2 else mm_lsf z dd v : Nat) : Int)
      split
      · exact e2
      · exact ih v h2
theorem mm_r_lsw (X : mm_X x) {dflt : Int} {ps : Array (Int × Int)} {len dd : Nat} {ts : List (Int × Nat)} (d : decode (mm_xk x) pc = .ok (.lookupswitch dflt ps, len)) (hp : (ps.toList.zip (ps.toList.drop 1)).all (fun (a, next) => a.1 < next.1) = true)
    (hd : (pc : Int) + dflt = (dd : Int)) (hts : ps.toList.map (fun q => (q.1, (pc : Int) + q.2)) = ts.map (fun q => (q.1, (q.2 : Int)))) : mm_row x Q Tg pc (mm_lsw dd ts) := by
  refine mm_r_st (fun L st S => ?_)
  unfold mm_lsw
  split
  · next z r => exact Or.inr ⟨_, _, rfl, mm_tl1n, fun ad H locs cells slots ls _ k => lv_lookup X.1 X.2.1 d hp rfl (mm_lsf_eq hd z.toInt ps.toList ts hts) k⟩
  · exact Or.inl rfl
end ROWS2
