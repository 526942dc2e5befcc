/-! rows that read and write the world -/
theorem mm_uws0 : ∀ w ∈ u_ws RX0 TX0 8, w ∈ lw_tbl := by decide +kernel
theorem mm_uws1 : ∀ w ∈ u_ws RX1 TX1 11, w ∈ lw_tbl := by decide +kernel
theorem mm_uws2 : ∀ w ∈ u_ws RX2 TX2 3, w ∈ lw_tbl := by decide +kernel
theorem mm_uws3 : ∀ w ∈ u_ws RX3 TX3 5, w ∈ lw_tbl := by decide +kernel
theorem mm_uws4 : ∀ w ∈ u_ws RX4 TX4 7, w ∈ lw_tbl := by decide +kernel
theorem mm_uws5 : ∀ w ∈ u_ws RX5 TX5 8, w ∈ lw_tbl := by decide +kernel
theorem mm_uws6 : ∀ w ∈ u_ws RX6 TX6 7, w ∈ lw_tbl := by decide +kernel
theorem mm_uws7 : ∀ w ∈ u_ws RX7 TX7 2, w ∈ lw_tbl := by decide +kernel
theorem mm_uws8 : ∀ w ∈ u_ws RX8 TX8 6, w ∈ lw_tbl := by decide +kernel
theorem mm_uws9 : ∀ w ∈ u_ws RX9 TX9 2, w ∈ lw_tbl := by decide +kernel
theorem mm_uws10 : ∀ w ∈ u_ws RX10 TX10 10, w ∈ lw_tbl := by decide +kernel
theorem mm_u_good (C : String) (T : u_T) (k : Nat) : goodWord (u_lay C T k) = true := by
  unfold u_lay
  split <;> rfl
theorem mm_uws {ci N : Nat} {C : String} {T : u_T} (h : vwCl[ci]? = some (C, T, N)) : ∀ w ∈ u_ws C T N, w ∈ mm_ws := by
  have key : ∀ w ∈ u_ws C T N, w ∈ lw_tbl := by
    have hci : ci < 11 := (List.getElem?_eq_some_iff.mp h).1
    match ci, hci, h with
    | 0, _, h => cases h; exact mm_uws0
    | 1, _, h => cases h; exact mm_uws1
    | 2, _, h => cases h; exact mm_uws2
    | 3, _, h => cases h; exact mm_uws3
    | 4, _, h => cases h; exact mm_uws4
    | 5, _, h => cases h; exact mm_uws5
    | 6, _, h => cases h; exact mm_uws6
    | 7, _, h => cases h; exact mm_uws7
    | 8, _, h => cases h; exact mm_uws8
    | 9, _, h => cases h; exact mm_uws9
    | 10, _, h => cases h; exact mm_uws10
    | k + 11, q, _ => omega
  intro w hw
  refine mm_mem (key w hw) ?_
  obtain ⟨k, -, e⟩ := List.mem_map.mp hw
  rw [← e]
  exact mm_u_good C T k
theorem mm_cl_ty {ci N : Nat} {C : String} {T : u_T} (h : vwCl[ci]? = some (C, T, N)) : (∀ k, k < N → parseFieldDescriptor (T k).2.2.1 = some (mm_ty ci k)) ∧ (∀ a, a < N → ∀ b, b < N → a ≠ b → (T a).2.1 ≠ (T b).2.1) := by
  have hci : ci < 11 := (List.getElem?_eq_some_iff.mp h).1
  match ci, hci, h with
  | 0, _, h => cases h; exact ⟨tyX0_ok, nmX0⟩
  | 1, _, h => cases h; exact ⟨tyX1_ok, nmX1⟩
  | 2, _, h => cases h; exact ⟨tyX2_ok, nmX2⟩
  | 3, _, h => cases h; exact ⟨tyX3_ok, nmX3⟩
  | 4, _, h => cases h; exact ⟨tyX4_ok, nmX4⟩
  | 5, _, h => cases h; exact ⟨tyX5_ok, nmX5⟩
  | 6, _, h => cases h; exact ⟨tyX6_ok, nmX6⟩
  | 7, _, h => cases h; exact ⟨tyX7_ok, nmX7⟩
  | 8, _, h => cases h; exact ⟨tyX8_ok, nmX8⟩
  | 9, _, h => cases h; exact ⟨tyX9_ok, nmX9⟩
  | 10, _, h => cases h; exact ⟨tyX10_ok, nmX10⟩
  | k + 11, q, _ => omega
theorem mm_nf_eq {ci N : Nat} {C : String} {T : u_T} (h : vwCl[ci]? = some (C, T, N)) : mm_nf ci = N := by
  unfold mm_nf
  rw [List.getD_eq_getElem?_getD, h]
  rfl
