/-! rows filled -/
theorem sp_J7_fill_031fb_13_l (e : Nat) (I : Nat → Nat → Int32) (J : Nat → Nat → Int64) (B : Nat → Nat → Int64) (x1 : Int32) (d : Nat) : ∀ (k : Nat) (A : Nat → Nat → Int32), k + d = 1024 → mm_run (mm_pr tb_J7_fill_031fb) (5, [some (.ref 13), some (.int x1), some (.int (i32 k)), some (.int (i32 1024))], [], (79, e, mm_R0, I, J, A, B)) = some (.inl none, (79, e, mm_R0, I, J, mm_put A 13 (fun j => if k ≤ j ∧ j < 1024 then x1.toInt8.toInt32 else A 13 j), B)) := by
  induction d with
  | zero =>
    intro k A h
    rw [sg_J7_fill_031fb_13_5, if_neg (by rw [i32_lt (by omega) (by decide)]; omega)]
    have : (fun j => if k ≤ j ∧ j < 1024 then x1.toInt8.toInt32 else A 13 j) = A 13 := by
      funext j; exact if_neg (by omega)
    rw [this, mm_put_id]
  | succ d ih =>
    intro k A h
    rw [sg_J7_fill_031fb_13_5]
    simp only [i32_l, i32_add]
    rw [if_pos (by rw [i32_lt (by omega) (by decide)]; omega), if_pos ((i32_in (a := k) (n := 1024) (by omega)).2 (by omega)), i32_ix (by omega)]
    rw [ih (k + 1) _ (by omega), mm_up_put, mm_put_put]
    have : (fun j => if k + 1 ≤ j ∧ j < 1024 then x1.toInt8.toInt32 else mm_put A 13 (fun j => if j = k then x1.toInt8.toInt32 else A 13 j) 13 j) = (fun j => if k ≤ j ∧ j < 1024 then x1.toInt8.toInt32 else A 13 j) := by
      funext j
      rw [mm_put_same]
      by_cases h1 : j = k
      · rw [if_neg (by omega), if_pos h1, if_pos (by omega)]
      · by_cases h2 : k ≤ j ∧ j < 1024
        · rw [if_pos (by omega), if_pos h2]
        · rw [if_neg (by omega), if_neg h1, if_neg h2]
    rw [this]
theorem sp_J7_fill_031fb_13 (e : Nat) (I : Nat → Nat → Int32) (J : Nat → Nat → Int64) (A : Nat → Nat → Int32) (B : Nat → Nat → Int64) (x1 : Int32) : f_J7_fill_031fb [.ref 13, .int x1] (79, e, mm_R0, I, J, A, B) = some (.inl none, (79, e, mm_R0, I, J, mm_put A 13 (fun j => if j < 1024 then x1.toInt8.toInt32 else A 13 j), B)) := by
  rw [en_J7_fill_031fb_13, sg_J7_fill_031fb_13_0]
  have := sp_J7_fill_031fb_13_l e I J B x1 1024 0 A rfl
  simp only [Nat.zero_le, true_and] at this
  exact this
theorem sp_J7_fill_031fb_14_l (e : Nat) (I : Nat → Nat → Int32) (J : Nat → Nat → Int64) (B : Nat → Nat → Int64) (x1 : Int32) (d : Nat) : ∀ (k : Nat) (A : Nat → Nat → Int32), k + d = 19683 → mm_run (mm_pr tb_J7_fill_031fb) (5, [some (.ref 14), some (.int x1), some (.int (i32 k)), some (.int (i32 19683))], [], (79, e, mm_R0, I, J, A, B)) = some (.inl none, (79, e, mm_R0, I, J, mm_put A 14 (fun j => if k ≤ j ∧ j < 19683 then x1.toInt8.toInt32 else A 14 j), B)) := by
  induction d with
  | zero =>
    intro k A h
    rw [sg_J7_fill_031fb_14_5, if_neg (by rw [i32_lt (by omega) (by decide)]; omega)]
    have : (fun j => if k ≤ j ∧ j < 19683 then x1.toInt8.toInt32 else A 14 j) = A 14 := by
      funext j; exact if_neg (by omega)
    rw [this, mm_put_id]
  | succ d ih =>
    intro k A h
    rw [sg_J7_fill_031fb_14_5]
    simp only [i32_l, i32_add]
    rw [if_pos (by rw [i32_lt (by omega) (by decide)]; omega), if_pos ((i32_in (a := k) (n := 19683) (by omega)).2 (by omega)), i32_ix (by omega)]
    rw [ih (k + 1) _ (by omega), mm_up_put, mm_put_put]
    have : (fun j => if k + 1 ≤ j ∧ j < 19683 then x1.toInt8.toInt32 else mm_put A 14 (fun j => if j = k then x1.toInt8.toInt32 else A 14 j) 14 j) = (fun j => if k ≤ j ∧ j < 19683 then x1.toInt8.toInt32 else A 14 j) := by
      funext j
      rw [mm_put_same]
      by_cases h1 : j = k
      · rw [if_neg (by omega), if_pos h1, if_pos (by omega)]
      · by_cases h2 : k ≤ j ∧ j < 19683
        · rw [if_pos (by omega), if_pos h2]
        · rw [if_neg (by omega), if_neg h1, if_neg h2]
    rw [this]
theorem sp_J7_fill_031fb_14 (e : Nat) (I : Nat → Nat → Int32) (J : Nat → Nat → Int64) (A : Nat → Nat → Int32) (B : Nat → Nat → Int64) (x1 : Int32) : f_J7_fill_031fb [.ref 14, .int x1] (79, e, mm_R0, I, J, A, B) = some (.inl none, (79, e, mm_R0, I, J, mm_put A 14 (fun j => if j < 19683 then x1.toInt8.toInt32 else A 14 j), B)) := by
  rw [en_J7_fill_031fb_14, sg_J7_fill_031fb_14_0]
  have := sp_J7_fill_031fb_14_l e I J B x1 19683 0 A rfl
  simp only [Nat.zero_le, true_and] at this
  exact this
theorem sp_J7_fill_031fb_19_l (e : Nat) (I : Nat → Nat → Int32) (J : Nat → Nat → Int64) (B : Nat → Nat → Int64) (x1 : Int32) (d : Nat) : ∀ (k : Nat) (A : Nat → Nat → Int32), k + d = 512 → mm_run (mm_pr tb_J7_fill_031fb) (5, [some (.ref 19), some (.int x1), some (.int (i32 k)), some (.int (i32 512))], [], (79, e, mm_R0, I, J, A, B)) = some (.inl none, (79, e, mm_R0, I, J, mm_put A 19 (fun j => if k ≤ j ∧ j < 512 then x1.toInt8.toInt32 else A 19 j), B)) := by
  induction d with
  | zero =>
    intro k A h
    rw [sg_J7_fill_031fb_19_5, if_neg (by rw [i32_lt (by omega) (by decide)]; omega)]
    have : (fun j => if k ≤ j ∧ j < 512 then x1.toInt8.toInt32 else A 19 j) = A 19 := by
      funext j; exact if_neg (by omega)
    rw [this, mm_put_id]
  | succ d ih =>
    intro k A h
    rw [sg_J7_fill_031fb_19_5]
    simp only [i32_l, i32_add]
    rw [if_pos (by rw [i32_lt (by omega) (by decide)]; omega), if_pos ((i32_in (a := k) (n := 512) (by omega)).2 (by omega)), i32_ix (by omega)]
    rw [ih (k + 1) _ (by omega), mm_up_put, mm_put_put]
    have : (fun j => if k + 1 ≤ j ∧ j < 512 then x1.toInt8.toInt32 else mm_put A 19 (fun j => if j = k then x1.toInt8.toInt32 else A 19 j) 19 j) = (fun j => if k ≤ j ∧ j < 512 then x1.toInt8.toInt32 else A 19 j) := by
      funext j
      rw [mm_put_same]
      by_cases h1 : j = k
      · rw [if_neg (by omega), if_pos h1, if_pos (by omega)]
      · by_cases h2 : k ≤ j ∧ j < 512
        · rw [if_pos (by omega), if_pos h2]
        · rw [if_neg (by omega), if_neg h1, if_neg h2]
    rw [this]
theorem sp_J7_fill_031fb_19 (e : Nat) (I : Nat → Nat → Int32) (J : Nat → Nat → Int64) (A : Nat → Nat → Int32) (B : Nat → Nat → Int64) (x1 : Int32) : f_J7_fill_031fb [.ref 19, .int x1] (79, e, mm_R0, I, J, A, B) = some (.inl none, (79, e, mm_R0, I, J, mm_put A 19 (fun j => if j < 512 then x1.toInt8.toInt32 else A 19 j), B)) := by
  rw [en_J7_fill_031fb_19, sg_J7_fill_031fb_19_0]
  have := sp_J7_fill_031fb_19_l e I J B x1 512 0 A rfl
  simp only [Nat.zero_le, true_and] at this
  exact this
theorem sp_J7_fill_031fb_20_l (e : Nat) (I : Nat → Nat → Int32) (J : Nat → Nat → Int64) (B : Nat → Nat → Int64) (x1 : Int32) (d : Nat) : ∀ (k : Nat) (A : Nat → Nat → Int32), k + d = 19683 → mm_run (mm_pr tb_J7_fill_031fb) (5, [some (.ref 20), some (.int x1), some (.int (i32 k)), some (.int (i32 19683))], [], (79, e, mm_R0, I, J, A, B)) = some (.inl none, (79, e, mm_R0, I, J, mm_put A 20 (fun j => if k ≤ j ∧ j < 19683 then x1.toInt8.toInt32 else A 20 j), B)) := by
  induction d with
  | zero =>
    intro k A h
    rw [sg_J7_fill_031fb_20_5, if_neg (by rw [i32_lt (by omega) (by decide)]; omega)]
    have : (fun j => if k ≤ j ∧ j < 19683 then x1.toInt8.toInt32 else A 20 j) = A 20 := by
      funext j; exact if_neg (by omega)
    rw [this, mm_put_id]
  | succ d ih =>
    intro k A h
    rw [sg_J7_fill_031fb_20_5]
    simp only [i32_l, i32_add]
    rw [if_pos (by rw [i32_lt (by omega) (by decide)]; omega), if_pos ((i32_in (a := k) (n := 19683) (by omega)).2 (by omega)), i32_ix (by omega)]
    rw [ih (k + 1) _ (by omega), mm_up_put, mm_put_put]
    have : (fun j => if k + 1 ≤ j ∧ j < 19683 then x1.toInt8.toInt32 else mm_put A 20 (fun j => if j = k then x1.toInt8.toInt32 else A 20 j) 20 j) = (fun j => if k ≤ j ∧ j < 19683 then x1.toInt8.toInt32 else A 20 j) := by
      funext j
      rw [mm_put_same]
      by_cases h1 : j = k
      · rw [if_neg (by omega), if_pos h1, if_pos (by omega)]
      · by_cases h2 : k ≤ j ∧ j < 19683
        · rw [if_pos (by omega), if_pos h2]
        · rw [if_neg (by omega), if_neg h1, if_neg h2]
    rw [this]
theorem sp_J7_fill_031fb_20 (e : Nat) (I : Nat → Nat → Int32) (J : Nat → Nat → Int64) (A : Nat → Nat → Int32) (B : Nat → Nat → Int64) (x1 : Int32) : f_J7_fill_031fb [.ref 20, .int x1] (79, e, mm_R0, I, J, A, B) = some (.inl none, (79, e, mm_R0, I, J, mm_put A 20 (fun j => if j < 19683 then x1.toInt8.toInt32 else A 20 j), B)) := by
  rw [en_J7_fill_031fb_20, sg_J7_fill_031fb_20_0]
  have := sp_J7_fill_031fb_20_l e I J B x1 19683 0 A rfl
  simp only [Nat.zero_le, true_and] at this
  exact this
theorem sp_J7_fill_53178_31_l (e : Nat) (I : Nat → Nat → Int32) (J : Nat → Nat → Int64) (B : Nat → Nat → Int64) (x1 : Int32) (d : Nat) : ∀ (k : Nat) (A : Nat → Nat → Int32), k + d = 2 → mm_run (mm_pr tb_J7_fill_53178) (5, [some (.ref 31), some (.int x1), some (.int (i32 k)), some (.int (i32 2))], [], (79, e, mm_R0, I, J, A, B)) = some (.inl none, (79, e, mm_R0, I, J, mm_put A 31 (fun j => if k ≤ j ∧ j < 2 then x1 else A 31 j), B)) := by
  induction d with
  | zero =>
    intro k A h
    rw [sg_J7_fill_53178_31_5, if_neg (by rw [i32_lt (by omega) (by decide)]; omega)]
    have : (fun j => if k ≤ j ∧ j < 2 then x1 else A 31 j) = A 31 := by
      funext j; exact if_neg (by omega)
    rw [this, mm_put_id]
  | succ d ih =>
    intro k A h
    rw [sg_J7_fill_53178_31_5]
    simp only [i32_l, i32_add]
    rw [if_pos (by rw [i32_lt (by omega) (by decide)]; omega), if_pos ((i32_in (a := k) (n := 2) (by omega)).2 (by omega)), i32_ix (by omega)]
    rw [ih (k + 1) _ (by omega), mm_up_put, mm_put_put]
    have : (fun j => if k + 1 ≤ j ∧ j < 2 then x1 else mm_put A 31 (fun j => if j = k then x1 else A 31 j) 31 j) = (fun j => if k ≤ j ∧ j < 2 then x1 else A 31 j) := by
      funext j
      rw [mm_put_same]
      by_cases h1 : j = k
      · rw [if_neg (by omega), if_pos h1, if_pos (by omega)]
      · by_cases h2 : k ≤ j ∧ j < 2
        · rw [if_pos (by omega), if_pos h2]
        · rw [if_neg (by omega), if_neg h1, if_neg h2]
    rw [this]
theorem sp_J7_fill_53178_31 (e : Nat) (I : Nat → Nat → Int32) (J : Nat → Nat → Int64) (A : Nat → Nat → Int32) (B : Nat → Nat → Int64) (x1 : Int32) : f_J7_fill_53178 [.ref 31, .int x1] (79, e, mm_R0, I, J, A, B) = some (.inl none, (79, e, mm_R0, I, J, mm_put A 31 (fun j => if j < 2 then x1 else A 31 j), B)) := by
  rw [en_J7_fill_53178_31, sg_J7_fill_53178_31_0]
  have := sp_J7_fill_53178_31_l e I J B x1 2 0 A rfl
  simp only [Nat.zero_le, true_and] at this
  exact this
theorem sp_J7_fill_53178_32_l (e : Nat) (I : Nat → Nat → Int32) (J : Nat → Nat → Int64) (B : Nat → Nat → Int64) (x1 : Int32) (d : Nat) : ∀ (k : Nat) (A : Nat → Nat → Int32), k + d = 2 → mm_run (mm_pr tb_J7_fill_53178) (5, [some (.ref 32), some (.int x1), some (.int (i32 k)), some (.int (i32 2))], [], (79, e, mm_R0, I, J, A, B)) = some (.inl none, (79, e, mm_R0, I, J, mm_put A 32 (fun j => if k ≤ j ∧ j < 2 then x1 else A 32 j), B)) := by
  induction d with
  | zero =>
    intro k A h
    rw [sg_J7_fill_53178_32_5, if_neg (by rw [i32_lt (by omega) (by decide)]; omega)]
    have : (fun j => if k ≤ j ∧ j < 2 then x1 else A 32 j) = A 32 := by
      funext j; exact if_neg (by omega)
    rw [this, mm_put_id]
  | succ d ih =>
    intro k A h
    rw [sg_J7_fill_53178_32_5]
    simp only [i32_l, i32_add]
    rw [if_pos (by rw [i32_lt (by omega) (by decide)]; omega), if_pos ((i32_in (a := k) (n := 2) (by omega)).2 (by omega)), i32_ix (by omega)]
    rw [ih (k + 1) _ (by omega), mm_up_put, mm_put_put]
    have : (fun j => if k + 1 ≤ j ∧ j < 2 then x1 else mm_put A 32 (fun j => if j = k then x1 else A 32 j) 32 j) = (fun j => if k ≤ j ∧ j < 2 then x1 else A 32 j) := by
      funext j
      rw [mm_put_same]
      by_cases h1 : j = k
      · rw [if_neg (by omega), if_pos h1, if_pos (by omega)]
      · by_cases h2 : k ≤ j ∧ j < 2
        · rw [if_pos (by omega), if_pos h2]
        · rw [if_neg (by omega), if_neg h1, if_neg h2]
    rw [this]
theorem sp_J7_fill_53178_32 (e : Nat) (I : Nat → Nat → Int32) (J : Nat → Nat → Int64) (A : Nat → Nat → Int32) (B : Nat → Nat → Int64) (x1 : Int32) : f_J7_fill_53178 [.ref 32, .int x1] (79, e, mm_R0, I, J, A, B) = some (.inl none, (79, e, mm_R0, I, J, mm_put A 32 (fun j => if j < 2 then x1 else A 32 j), B)) := by
  rw [en_J7_fill_53178_32, sg_J7_fill_53178_32_0]
  have := sp_J7_fill_53178_32_l e I J B x1 2 0 A rfl
  simp only [Nat.zero_le, true_and] at this
  exact this
theorem sp_J7_fill_53178_33_l (e : Nat) (I : Nat → Nat → Int32) (J : Nat → Nat → Int64) (B : Nat → Nat → Int64) (x1 : Int32) (d : Nat) : ∀ (k : Nat) (A : Nat → Nat → Int32), k + d = 2 → mm_run (mm_pr tb_J7_fill_53178) (5, [some (.ref 33), some (.int x1), some (.int (i32 k)), some (.int (i32 2))], [], (79, e, mm_R0, I, J, A, B)) = some (.inl none, (79, e, mm_R0, I, J, mm_put A 33 (fun j => if k ≤ j ∧ j < 2 then x1 else A 33 j), B)) := by
  induction d with
  | zero =>
    intro k A h
    rw [sg_J7_fill_53178_33_5, if_neg (by rw [i32_lt (by omega) (by decide)]; omega)]
    have : (fun j => if k ≤ j ∧ j < 2 then x1 else A 33 j) = A 33 := by
      funext j; exact if_neg (by omega)
    rw [this, mm_put_id]
  | succ d ih =>
    intro k A h
    rw [sg_J7_fill_53178_33_5]
    simp only [i32_l, i32_add]
    rw [if_pos (by rw [i32_lt (by omega) (by decide)]; omega), if_pos ((i32_in (a := k) (n := 2) (by omega)).2 (by omega)), i32_ix (by omega)]
    rw [ih (k + 1) _ (by omega), mm_up_put, mm_put_put]
    have : (fun j => if k + 1 ≤ j ∧ j < 2 then x1 else mm_put A 33 (fun j => if j = k then x1 else A 33 j) 33 j) = (fun j => if k ≤ j ∧ j < 2 then x1 else A 33 j) := by
      funext j
      rw [mm_put_same]
      by_cases h1 : j = k
      · rw [if_neg (by omega), if_pos h1, if_pos (by omega)]
      · by_cases h2 : k ≤ j ∧ j < 2
        · rw [if_pos (by omega), if_pos h2]
        · rw [if_neg (by omega), if_neg h1, if_neg h2]
    rw [this]
theorem sp_J7_fill_53178_33 (e : Nat) (I : Nat → Nat → Int32) (J : Nat → Nat → Int64) (A : Nat → Nat → Int32) (B : Nat → Nat → Int64) (x1 : Int32) : f_J7_fill_53178 [.ref 33, .int x1] (79, e, mm_R0, I, J, A, B) = some (.inl none, (79, e, mm_R0, I, J, mm_put A 33 (fun j => if j < 2 then x1 else A 33 j), B)) := by
  rw [en_J7_fill_53178_33, sg_J7_fill_53178_33_0]
  have := sp_J7_fill_53178_33_l e I J B x1 2 0 A rfl
  simp only [Nat.zero_le, true_and] at this
  exact this

