def mm_mn (f : mm_I) : Prop := ∀ L st S, (∀ c', f L st S = some (.inl c') → mm_le S c'.2.2.2) ∧ (∀ r, f L st S = some (.inr r) → mm_le S r.2)
theorem mm_n_k (n : Nat) (v : Value) : mm_mn (mm_k n v) := by
  intro L st S
  constructor <;> intro z e <;> (unfold mm_k at e) <;> (try simp only [Bool.cond_eq_ite] at e) <;> (repeat' split at e) <;> first | (cases e; done) | (cases e; exact ⟨Nat.le_refl _, Nat.le_refl _⟩) | (cases e; exact ⟨Nat.le_succ _, Nat.le_refl _⟩) | (cases e; exact ⟨Nat.le_refl _, Nat.le_succ _⟩)
theorem mm_n_ldI (n i : Nat) : mm_mn (mm_ldI n i) := by
  intro L st S
  constructor <;> intro z e <;> (unfold mm_ldI at e) <;> (try simp only [Bool.cond_eq_ite] at e) <;> (repeat' split at e) <;> first | (cases e; done) | (cases e; exact ⟨Nat.le_refl _, Nat.le_refl _⟩) | (cases e; exact ⟨Nat.le_succ _, Nat.le_refl _⟩) | (cases e; exact ⟨Nat.le_refl _, Nat.le_succ _⟩)
theorem mm_n_ldJ (n i : Nat) : mm_mn (mm_ldJ n i) := by
  intro L st S
  constructor <;> intro z e <;> (unfold mm_ldJ at e) <;> (try simp only [Bool.cond_eq_ite] at e) <;> (repeat' split at e) <;> first | (cases e; done) | (cases e; exact ⟨Nat.le_refl _, Nat.le_refl _⟩) | (cases e; exact ⟨Nat.le_succ _, Nat.le_refl _⟩) | (cases e; exact ⟨Nat.le_refl _, Nat.le_succ _⟩)
theorem mm_n_ldR (n i : Nat) : mm_mn (mm_ldR n i) := by
  intro L st S
  constructor <;> intro z e <;> (unfold mm_ldR at e) <;> (try simp only [Bool.cond_eq_ite] at e) <;> (repeat' split at e) <;> first | (cases e; done) | (cases e; exact ⟨Nat.le_refl _, Nat.le_refl _⟩) | (cases e; exact ⟨Nat.le_succ _, Nat.le_refl _⟩) | (cases e; exact ⟨Nat.le_refl _, Nat.le_succ _⟩)
theorem mm_n_stI (n i : Nat) : mm_mn (mm_stI n i) := by
  intro L st S
  constructor <;> intro z e <;> (unfold mm_stI at e) <;> (try simp only [Bool.cond_eq_ite] at e) <;> (repeat' split at e) <;> first | (cases e; done) | (cases e; exact ⟨Nat.le_refl _, Nat.le_refl _⟩) | (cases e; exact ⟨Nat.le_succ _, Nat.le_refl _⟩) | (cases e; exact ⟨Nat.le_refl _, Nat.le_succ _⟩)
theorem mm_n_stJ (n i : Nat) : mm_mn (mm_stJ n i) := by
  intro L st S
  constructor <;> intro z e <;> (unfold mm_stJ at e) <;> (try simp only [Bool.cond_eq_ite] at e) <;> (repeat' split at e) <;> first | (cases e; done) | (cases e; exact ⟨Nat.le_refl _, Nat.le_refl _⟩) | (cases e; exact ⟨Nat.le_succ _, Nat.le_refl _⟩) | (cases e; exact ⟨Nat.le_refl _, Nat.le_succ _⟩)
theorem mm_n_stR (n i : Nat) : mm_mn (mm_stR n i) := by
  intro L st S
  constructor <;> intro z e <;> (unfold mm_stR at e) <;> (try simp only [Bool.cond_eq_ite] at e) <;> (repeat' split at e) <;> first | (cases e; done) | (cases e; exact ⟨Nat.le_refl _, Nat.le_refl _⟩) | (cases e; exact ⟨Nat.le_succ _, Nat.le_refl _⟩) | (cases e; exact ⟨Nat.le_refl _, Nat.le_succ _⟩)
theorem mm_n_inc (n i : Nat) (d : Int32) : mm_mn (mm_inc n i d) := by
  intro L st S
  constructor <;> intro z e <;> (unfold mm_inc at e) <;> (try simp only [Bool.cond_eq_ite] at e) <;> (repeat' split at e) <;> first | (cases e; done) | (cases e; exact ⟨Nat.le_refl _, Nat.le_refl _⟩) | (cases e; exact ⟨Nat.le_succ _, Nat.le_refl _⟩) | (cases e; exact ⟨Nat.le_refl _, Nat.le_succ _⟩)
theorem mm_n_dup (n : Nat) : mm_mn (mm_dup n) := by
  intro L st S
  constructor <;> intro z e <;> (unfold mm_dup at e) <;> (try simp only [Bool.cond_eq_ite] at e) <;> (repeat' split at e) <;> first | (cases e; done) | (cases e; exact ⟨Nat.le_refl _, Nat.le_refl _⟩) | (cases e; exact ⟨Nat.le_succ _, Nat.le_refl _⟩) | (cases e; exact ⟨Nat.le_refl _, Nat.le_succ _⟩)
theorem mm_n_dup2 (n : Nat) : mm_mn (mm_dup2 n) := by
  intro L st S
  constructor <;> intro z e <;> (unfold mm_dup2 at e) <;> (try simp only [Bool.cond_eq_ite] at e) <;> (repeat' split at e) <;> first | (cases e; done) | (cases e; exact ⟨Nat.le_refl _, Nat.le_refl _⟩) | (cases e; exact ⟨Nat.le_succ _, Nat.le_refl _⟩) | (cases e; exact ⟨Nat.le_refl _, Nat.le_succ _⟩)
theorem mm_n_pop (n : Nat) : mm_mn (mm_pop n) := by
  intro L st S
  constructor <;> intro z e <;> (unfold mm_pop at e) <;> (try simp only [Bool.cond_eq_ite] at e) <;> (repeat' split at e) <;> first | (cases e; done) | (cases e; exact ⟨Nat.le_refl _, Nat.le_refl _⟩) | (cases e; exact ⟨Nat.le_succ _, Nat.le_refl _⟩) | (cases e; exact ⟨Nat.le_refl _, Nat.le_succ _⟩)
theorem mm_n_i2 (n : Nat) (g : Int32 → Int32 → Int32) : mm_mn (mm_i2 n g) := by
  intro L st S
  constructor <;> intro z e <;> (unfold mm_i2 at e) <;> (try simp only [Bool.cond_eq_ite] at e) <;> (repeat' split at e) <;> first | (cases e; done) | (cases e; exact ⟨Nat.le_refl _, Nat.le_refl _⟩) | (cases e; exact ⟨Nat.le_succ _, Nat.le_refl _⟩) | (cases e; exact ⟨Nat.le_refl _, Nat.le_succ _⟩)
theorem mm_n_i3 (n : Nat) (g : Int32 → Int32 → Int32) : mm_mn (mm_i3 n g) := by
  intro L st S
  constructor <;> intro z e <;> (unfold mm_i3 at e) <;> (try simp only [Bool.cond_eq_ite] at e) <;> (repeat' split at e) <;> first | (cases e; done) | (cases e; exact ⟨Nat.le_refl _, Nat.le_refl _⟩) | (cases e; exact ⟨Nat.le_succ _, Nat.le_refl _⟩) | (cases e; exact ⟨Nat.le_refl _, Nat.le_succ _⟩)
theorem mm_n_i1 (n : Nat) (g : Int32 → Int32) : mm_mn (mm_i1 n g) := by
  intro L st S
  constructor <;> intro z e <;> (unfold mm_i1 at e) <;> (try simp only [Bool.cond_eq_ite] at e) <;> (repeat' split at e) <;> first | (cases e; done) | (cases e; exact ⟨Nat.le_refl _, Nat.le_refl _⟩) | (cases e; exact ⟨Nat.le_succ _, Nat.le_refl _⟩) | (cases e; exact ⟨Nat.le_refl _, Nat.le_succ _⟩)
theorem mm_n_l2 (n : Nat) (g : Int64 → Int64 → Int64) : mm_mn (mm_l2 n g) := by
  intro L st S
  constructor <;> intro z e <;> (unfold mm_l2 at e) <;> (try simp only [Bool.cond_eq_ite] at e) <;> (repeat' split at e) <;> first | (cases e; done) | (cases e; exact ⟨Nat.le_refl _, Nat.le_refl _⟩) | (cases e; exact ⟨Nat.le_succ _, Nat.le_refl _⟩) | (cases e; exact ⟨Nat.le_refl _, Nat.le_succ _⟩)
theorem mm_n_l3 (n : Nat) (g : Int64 → Int64 → Int64) : mm_mn (mm_l3 n g) := by
  intro L st S
  constructor <;> intro z e <;> (unfold mm_l3 at e) <;> (try simp only [Bool.cond_eq_ite] at e) <;> (repeat' split at e) <;> first | (cases e; done) | (cases e; exact ⟨Nat.le_refl _, Nat.le_refl _⟩) | (cases e; exact ⟨Nat.le_succ _, Nat.le_refl _⟩) | (cases e; exact ⟨Nat.le_refl _, Nat.le_succ _⟩)
theorem mm_n_l1 (n : Nat) (g : Int64 → Int64) : mm_mn (mm_l1 n g) := by
  intro L st S
  constructor <;> intro z e <;> (unfold mm_l1 at e) <;> (try simp only [Bool.cond_eq_ite] at e) <;> (repeat' split at e) <;> first | (cases e; done) | (cases e; exact ⟨Nat.le_refl _, Nat.le_refl _⟩) | (cases e; exact ⟨Nat.le_succ _, Nat.le_refl _⟩) | (cases e; exact ⟨Nat.le_refl _, Nat.le_succ _⟩)
theorem mm_n_ls (n : Nat) (g : Int64 → Int32 → Int64) : mm_mn (mm_ls n g) := by
  intro L st S
  constructor <;> intro z e <;> (unfold mm_ls at e) <;> (try simp only [Bool.cond_eq_ite] at e) <;> (repeat' split at e) <;> first | (cases e; done) | (cases e; exact ⟨Nat.le_refl _, Nat.le_refl _⟩) | (cases e; exact ⟨Nat.le_succ _, Nat.le_refl _⟩) | (cases e; exact ⟨Nat.le_refl _, Nat.le_succ _⟩)
theorem mm_n_il (n : Nat) (g : Int32 → Int64) : mm_mn (mm_il n g) := by
  intro L st S
  constructor <;> intro z e <;> (unfold mm_il at e) <;> (try simp only [Bool.cond_eq_ite] at e) <;> (repeat' split at e) <;> first | (cases e; done) | (cases e; exact ⟨Nat.le_refl _, Nat.le_refl _⟩) | (cases e; exact ⟨Nat.le_succ _, Nat.le_refl _⟩) | (cases e; exact ⟨Nat.le_refl _, Nat.le_succ _⟩)
theorem mm_n_li (n : Nat) (g : Int64 → Int32) : mm_mn (mm_li n g) := by
  intro L st S
  constructor <;> intro z e <;> (unfold mm_li at e) <;> (try simp only [Bool.cond_eq_ite] at e) <;> (repeat' split at e) <;> first | (cases e; done) | (cases e; exact ⟨Nat.le_refl _, Nat.le_refl _⟩) | (cases e; exact ⟨Nat.le_succ _, Nat.le_refl _⟩) | (cases e; exact ⟨Nat.le_refl _, Nat.le_succ _⟩)
theorem mm_n_cmp (n : Nat) : mm_mn (mm_cmp n) := by
  intro L st S
  constructor <;> intro z e <;> (unfold mm_cmp at e) <;> (try simp only [Bool.cond_eq_ite] at e) <;> (repeat' split at e) <;> first | (cases e; done) | (cases e; exact ⟨Nat.le_refl _, Nat.le_refl _⟩) | (cases e; exact ⟨Nat.le_succ _, Nat.le_refl _⟩) | (cases e; exact ⟨Nat.le_refl _, Nat.le_succ _⟩)
theorem mm_n_go (t : Nat) : mm_mn (mm_go t) := by
  intro L st S
  constructor <;> intro z e <;> (unfold mm_go at e) <;> (try simp only [Bool.cond_eq_ite] at e) <;> (repeat' split at e) <;> first | (cases e; done) | (cases e; exact ⟨Nat.le_refl _, Nat.le_refl _⟩) | (cases e; exact ⟨Nat.le_succ _, Nat.le_refl _⟩) | (cases e; exact ⟨Nat.le_refl _, Nat.le_succ _⟩)
theorem mm_n_tsw (lo hi : Int) (d : Nat) (ts : List Nat) : mm_mn (mm_tsw lo hi d ts) := by
  intro L st S
  constructor <;> intro z e <;> (unfold mm_tsw at e) <;> (try simp only [Bool.cond_eq_ite] at e) <;> (repeat' split at e) <;> first | (cases e; done) | (cases e; exact ⟨Nat.le_refl _, Nat.le_refl _⟩) | (cases e; exact ⟨Nat.le_succ _, Nat.le_refl _⟩) | (cases e; exact ⟨Nat.le_refl _, Nat.le_succ _⟩)
theorem mm_n_lsw (d : Nat) (ts : List (Int × Nat)) : mm_mn (mm_lsw d ts) := by
  intro L st S
  constructor <;> intro z e <;> (unfold mm_lsw at e) <;> (try simp only [Bool.cond_eq_ite] at e) <;> (repeat' split at e) <;> first | (cases e; done) | (cases e; exact ⟨Nat.le_refl _, Nat.le_refl _⟩) | (cases e; exact ⟨Nat.le_succ _, Nat.le_refl _⟩) | (cases e; exact ⟨Nat.le_refl _, Nat.le_succ _⟩)
theorem mm_n_gfI (n ci p : Nat) : mm_mn (mm_gfI n ci p) := by
  intro L st S
  constructor <;> intro z e <;> (unfold mm_gfI at e) <;> (try simp only [Bool.cond_eq_ite] at e) <;> (repeat' split at e) <;> first | (cases e; done) | (cases e; exact ⟨Nat.le_refl _, Nat.le_refl _⟩) | (cases e; exact ⟨Nat.le_succ _, Nat.le_refl _⟩) | (cases e; exact ⟨Nat.le_refl _, Nat.le_succ _⟩)
theorem mm_n_gfJ (n ci p : Nat) : mm_mn (mm_gfJ n ci p) := by
  intro L st S
  constructor <;> intro z e <;> (unfold mm_gfJ at e) <;> (try simp only [Bool.cond_eq_ite] at e) <;> (repeat' split at e) <;> first | (cases e; done) | (cases e; exact ⟨Nat.le_refl _, Nat.le_refl _⟩) | (cases e; exact ⟨Nat.le_succ _, Nat.le_refl _⟩) | (cases e; exact ⟨Nat.le_refl _, Nat.le_succ _⟩)
theorem mm_n_gfR (n ci p : Nat) : mm_mn (mm_gfR n ci p) := by
  intro L st S
  constructor <;> intro z e <;> (unfold mm_gfR at e) <;> (try simp only [Bool.cond_eq_ite] at e) <;> (repeat' split at e) <;> first | (cases e; done) | (cases e; exact ⟨Nat.le_refl _, Nat.le_refl _⟩) | (cases e; exact ⟨Nat.le_succ _, Nat.le_refl _⟩) | (cases e; exact ⟨Nat.le_refl _, Nat.le_succ _⟩)
theorem mm_n_pfI (n ci p : Nat) : mm_mn (mm_pfI n ci p) := by
  intro L st S
  constructor <;> intro z e <;> (unfold mm_pfI at e) <;> (try simp only [Bool.cond_eq_ite] at e) <;> (repeat' split at e) <;> first | (cases e; done) | (cases e; exact ⟨Nat.le_refl _, Nat.le_refl _⟩) | (cases e; exact ⟨Nat.le_succ _, Nat.le_refl _⟩) | (cases e; exact ⟨Nat.le_refl _, Nat.le_succ _⟩)
theorem mm_n_pfZ (n ci p : Nat) : mm_mn (mm_pfZ n ci p) := by
  intro L st S
  constructor <;> intro z e <;> (unfold mm_pfZ at e) <;> (try simp only [Bool.cond_eq_ite] at e) <;> (repeat' split at e) <;> first | (cases e; done) | (cases e; exact ⟨Nat.le_refl _, Nat.le_refl _⟩) | (cases e; exact ⟨Nat.le_succ _, Nat.le_refl _⟩) | (cases e; exact ⟨Nat.le_refl _, Nat.le_succ _⟩)
theorem mm_n_pfJ (n ci p : Nat) : mm_mn (mm_pfJ n ci p) := by
  intro L st S
  constructor <;> intro z e <;> (unfold mm_pfJ at e) <;> (try simp only [Bool.cond_eq_ite] at e) <;> (repeat' split at e) <;> first | (cases e; done) | (cases e; exact ⟨Nat.le_refl _, Nat.le_refl _⟩) | (cases e; exact ⟨Nat.le_succ _, Nat.le_refl _⟩) | (cases e; exact ⟨Nat.le_refl _, Nat.le_succ _⟩)
theorem mm_n_pfR (n ci p : Nat) : mm_mn (mm_pfR n ci p) := by
  intro L st S
  constructor <;> intro z e <;> (unfold mm_pfR at e) <;> (try simp only [Bool.cond_eq_ite] at e) <;> (repeat' split at e) <;> first | (cases e; done) | (cases e; exact ⟨Nat.le_refl _, Nat.le_refl _⟩) | (cases e; exact ⟨Nat.le_succ _, Nat.le_refl _⟩) | (cases e; exact ⟨Nat.le_refl _, Nat.le_succ _⟩)
theorem mm_n_ald (n t : Nat) : mm_mn (mm_ald n t) := by
  intro L st S
  constructor <;> intro z e <;> (unfold mm_ald at e) <;> (try simp only [Bool.cond_eq_ite] at e) <;> (repeat' split at e) <;> first | (cases e; done) | (cases e; exact ⟨Nat.le_refl _, Nat.le_refl _⟩) | (cases e; exact ⟨Nat.le_succ _, Nat.le_refl _⟩) | (cases e; exact ⟨Nat.le_refl _, Nat.le_succ _⟩)
theorem mm_n_aldJ (n : Nat) : mm_mn (mm_aldJ n) := by
  intro L st S
  constructor <;> intro z e <;> (unfold mm_aldJ at e) <;> (try simp only [Bool.cond_eq_ite] at e) <;> (repeat' split at e) <;> first | (cases e; done) | (cases e; exact ⟨Nat.le_refl _, Nat.le_refl _⟩) | (cases e; exact ⟨Nat.le_succ _, Nat.le_refl _⟩) | (cases e; exact ⟨Nat.le_refl _, Nat.le_succ _⟩)
theorem mm_n_aldS (n k : Nat) : mm_mn (mm_aldS n k) := by
  intro L st S
  constructor <;> intro z e <;> (unfold mm_aldS at e) <;> (try simp only [Bool.cond_eq_ite] at e) <;> (repeat' split at e) <;> first | (cases e; done) | (cases e; exact ⟨Nat.le_refl _, Nat.le_refl _⟩) | (cases e; exact ⟨Nat.le_succ _, Nat.le_refl _⟩) | (cases e; exact ⟨Nat.le_refl _, Nat.le_succ _⟩)
theorem mm_n_ast (n t : Nat) (g : Int32 → Int32) : mm_mn (mm_ast n t g) := by
  intro L st S
  constructor <;> intro z e <;> (unfold mm_ast at e) <;> (try simp only [Bool.cond_eq_ite] at e) <;> (repeat' split at e) <;> first | (cases e; done) | (cases e; exact ⟨Nat.le_refl _, Nat.le_refl _⟩) | (cases e; exact ⟨Nat.le_succ _, Nat.le_refl _⟩) | (cases e; exact ⟨Nat.le_refl _, Nat.le_succ _⟩)
theorem mm_n_astJ (n : Nat) : mm_mn (mm_astJ n) := by
  intro L st S
  constructor <;> intro z e <;> (unfold mm_astJ at e) <;> (try simp only [Bool.cond_eq_ite] at e) <;> (repeat' split at e) <;> first | (cases e; done) | (cases e; exact ⟨Nat.le_refl _, Nat.le_refl _⟩) | (cases e; exact ⟨Nat.le_succ _, Nat.le_refl _⟩) | (cases e; exact ⟨Nat.le_refl _, Nat.le_succ _⟩)
theorem mm_n_aln (n t : Nat) : mm_mn (mm_aln n t) := by
  intro L st S
  constructor <;> intro z e <;> (unfold mm_aln at e) <;> (try simp only [Bool.cond_eq_ite] at e) <;> (repeat' split at e) <;> first | (cases e; done) | (cases e; exact ⟨Nat.le_refl _, Nat.le_refl _⟩) | (cases e; exact ⟨Nat.le_succ _, Nat.le_refl _⟩) | (cases e; exact ⟨Nat.le_refl _, Nat.le_succ _⟩)
theorem mm_n_new (n ci : Nat) : mm_mn (mm_new n ci) := by
  intro L st S
  constructor <;> intro z e <;> (unfold mm_new at e) <;> (try simp only [Bool.cond_eq_ite] at e) <;> (repeat' split at e) <;> first | (cases e; done) | (cases e; exact ⟨Nat.le_refl _, Nat.le_refl _⟩) | (cases e; exact ⟨Nat.le_succ _, Nat.le_refl _⟩) | (cases e; exact ⟨Nat.le_refl _, Nat.le_succ _⟩)
theorem mm_n_nwa (n t : Nat) : mm_mn (mm_nwa n t) := by
  intro L st S
  constructor <;> intro z e <;> (unfold mm_nwa at e) <;> (try simp only [Bool.cond_eq_ite] at e) <;> (repeat' split at e) <;> first | (cases e; done) | (cases e; exact ⟨Nat.le_refl _, Nat.le_refl _⟩) | (cases e; exact ⟨Nat.le_succ _, Nat.le_refl _⟩) | (cases e; exact ⟨Nat.le_refl _, Nat.le_succ _⟩)
theorem mm_n_obj (n : Nat) : mm_mn (mm_obj n) := by
  intro L st S
  constructor <;> intro z e <;> (unfold mm_obj at e) <;> (try simp only [Bool.cond_eq_ite] at e) <;> (repeat' split at e) <;> first | (cases e; done) | (cases e; exact ⟨Nat.le_refl _, Nat.le_refl _⟩) | (cases e; exact ⟨Nat.le_succ _, Nat.le_refl _⟩) | (cases e; exact ⟨Nat.le_refl _, Nat.le_succ _⟩)
theorem mm_n_rtI  : mm_mn (mm_rtI ) := by
  intro L st S
  constructor <;> intro z e <;> (unfold mm_rtI at e) <;> (try simp only [Bool.cond_eq_ite] at e) <;> (repeat' split at e) <;> first | (cases e; done) | (cases e; exact ⟨Nat.le_refl _, Nat.le_refl _⟩) | (cases e; exact ⟨Nat.le_succ _, Nat.le_refl _⟩) | (cases e; exact ⟨Nat.le_refl _, Nat.le_succ _⟩)
theorem mm_n_rtZ  : mm_mn (mm_rtZ ) := by
  intro L st S
  constructor <;> intro z e <;> (unfold mm_rtZ at e) <;> (try simp only [Bool.cond_eq_ite] at e) <;> (repeat' split at e) <;> first | (cases e; done) | (cases e; exact ⟨Nat.le_refl _, Nat.le_refl _⟩) | (cases e; exact ⟨Nat.le_succ _, Nat.le_refl _⟩) | (cases e; exact ⟨Nat.le_refl _, Nat.le_succ _⟩)
theorem mm_n_rtC  : mm_mn (mm_rtC ) := by
  intro L st S
  constructor <;> intro z e <;> (unfold mm_rtC at e) <;> (try simp only [Bool.cond_eq_ite] at e) <;> (repeat' split at e) <;> first | (cases e; done) | (cases e; exact ⟨Nat.le_refl _, Nat.le_refl _⟩) | (cases e; exact ⟨Nat.le_succ _, Nat.le_refl _⟩) | (cases e; exact ⟨Nat.le_refl _, Nat.le_succ _⟩)
theorem mm_n_rtJ  : mm_mn (mm_rtJ ) := by
  intro L st S
  constructor <;> intro z e <;> (unfold mm_rtJ at e) <;> (try simp only [Bool.cond_eq_ite] at e) <;> (repeat' split at e) <;> first | (cases e; done) | (cases e; exact ⟨Nat.le_refl _, Nat.le_refl _⟩) | (cases e; exact ⟨Nat.le_succ _, Nat.le_refl _⟩) | (cases e; exact ⟨Nat.le_refl _, Nat.le_succ _⟩)
theorem mm_n_rtV  : mm_mn (mm_rtV ) := by
  intro L st S
  constructor <;> intro z e <;> (unfold mm_rtV at e) <;> (try simp only [Bool.cond_eq_ite] at e) <;> (repeat' split at e) <;> first | (cases e; done) | (cases e; exact ⟨Nat.le_refl _, Nat.le_refl _⟩) | (cases e; exact ⟨Nat.le_succ _, Nat.le_refl _⟩) | (cases e; exact ⟨Nat.le_refl _, Nat.le_succ _⟩)
theorem mm_n_thr (E : Nat) : mm_mn (mm_thr E) := by
  intro L st S
  constructor <;> intro z e <;> (unfold mm_thr at e) <;> (try simp only [Bool.cond_eq_ite] at e) <;> (repeat' split at e) <;> first | (cases e; done) | (cases e; exact ⟨Nat.le_refl _, Nat.le_refl _⟩) | (cases e; exact ⟨Nat.le_succ _, Nat.le_refl _⟩) | (cases e; exact ⟨Nat.le_refl _, Nat.le_succ _⟩)
theorem mm_n_eq2 (t n : Nat) : mm_mn (mm_eq2 t n) := by
  intro L st S
  constructor <;> intro z e <;> (unfold mm_eq2 at e) <;> (try simp only [Bool.cond_eq_ite] at e) <;> (repeat' split at e) <;> first | (cases e; done) | (cases e; exact ⟨Nat.le_refl _, Nat.le_refl _⟩) | (cases e; exact ⟨Nat.le_succ _, Nat.le_refl _⟩) | (cases e; exact ⟨Nat.le_refl _, Nat.le_succ _⟩)
theorem mm_n_eq1 (t n : Nat) : mm_mn (mm_eq1 t n) := by
  intro L st S
  constructor <;> intro z e <;> (unfold mm_eq1 at e) <;> (try simp only [Bool.cond_eq_ite] at e) <;> (repeat' split at e) <;> first | (cases e; done) | (cases e; exact ⟨Nat.le_refl _, Nat.le_refl _⟩) | (cases e; exact ⟨Nat.le_succ _, Nat.le_refl _⟩) | (cases e; exact ⟨Nat.le_refl _, Nat.le_succ _⟩)
theorem mm_n_ne2 (t n : Nat) : mm_mn (mm_ne2 t n) := by
  intro L st S
  constructor <;> intro z e <;> (unfold mm_ne2 at e) <;> (try simp only [Bool.cond_eq_ite] at e) <;> (repeat' split at e) <;> first | (cases e; done) | (cases e; exact ⟨Nat.le_refl _, Nat.le_refl _⟩) | (cases e; exact ⟨Nat.le_succ _, Nat.le_refl _⟩) | (cases e; exact ⟨Nat.le_refl _, Nat.le_succ _⟩)
theorem mm_n_ne1 (t n : Nat) : mm_mn (mm_ne1 t n) := by
  intro L st S
  constructor <;> intro z e <;> (unfold mm_ne1 at e) <;> (try simp only [Bool.cond_eq_ite] at e) <;> (repeat' split at e) <;> first | (cases e; done) | (cases e; exact ⟨Nat.le_refl _, Nat.le_refl _⟩) | (cases e; exact ⟨Nat.le_succ _, Nat.le_refl _⟩) | (cases e; exact ⟨Nat.le_refl _, Nat.le_succ _⟩)
theorem mm_n_lt2 (t n : Nat) : mm_mn (mm_lt2 t n) := by
  intro L st S
  constructor <;> intro z e <;> (unfold mm_lt2 at e) <;> (try simp only [Bool.cond_eq_ite] at e) <;> (repeat' split at e) <;> first | (cases e; done) | (cases e; exact ⟨Nat.le_refl _, Nat.le_refl _⟩) | (cases e; exact ⟨Nat.le_succ _, Nat.le_refl _⟩) | (cases e; exact ⟨Nat.le_refl _, Nat.le_succ _⟩)
theorem mm_n_lt1 (t n : Nat) : mm_mn (mm_lt1 t n) := by
  intro L st S
  constructor <;> intro z e <;> (unfold mm_lt1 at e) <;> (try simp only [Bool.cond_eq_ite] at e) <;> (repeat' split at e) <;> first | (cases e; done) | (cases e; exact ⟨Nat.le_refl _, Nat.le_refl _⟩) | (cases e; exact ⟨Nat.le_succ _, Nat.le_refl _⟩) | (cases e; exact ⟨Nat.le_refl _, Nat.le_succ _⟩)
theorem mm_n_ge2 (t n : Nat) : mm_mn (mm_ge2 t n) := by
  intro L st S
  constructor <;> intro z e <;> (unfold mm_ge2 at e) <;> (try simp only [Bool.cond_eq_ite] at e) <;> (repeat' split at e) <;> first | (cases e; done) | (cases e; exact ⟨Nat.le_refl _, Nat.le_refl _⟩) | (cases e; exact ⟨Nat.le_succ _, Nat.le_refl _⟩) | (cases e; exact ⟨Nat.le_refl _, Nat.le_succ _⟩)
theorem mm_n_ge1 (t n : Nat) : mm_mn (mm_ge1 t n) := by
  intro L st S
  constructor <;> intro z e <;> (unfold mm_ge1 at e) <;> (try simp only [Bool.cond_eq_ite] at e) <;> (repeat' split at e) <;> first | (cases e; done) | (cases e; exact ⟨Nat.le_refl _, Nat.le_refl _⟩) | (cases e; exact ⟨Nat.le_succ _, Nat.le_refl _⟩) | (cases e; exact ⟨Nat.le_refl _, Nat.le_succ _⟩)
theorem mm_n_gt2 (t n : Nat) : mm_mn (mm_gt2 t n) := by
  intro L st S
  constructor <;> intro z e <;> (unfold mm_gt2 at e) <;> (try simp only [Bool.cond_eq_ite] at e) <;> (repeat' split at e) <;> first | (cases e; done) | (cases e; exact ⟨Nat.le_refl _, Nat.le_refl _⟩) | (cases e; exact ⟨Nat.le_succ _, Nat.le_refl _⟩) | (cases e; exact ⟨Nat.le_refl _, Nat.le_succ _⟩)
theorem mm_n_gt1 (t n : Nat) : mm_mn (mm_gt1 t n) := by
  intro L st S
  constructor <;> intro z e <;> (unfold mm_gt1 at e) <;> (try simp only [Bool.cond_eq_ite] at e) <;> (repeat' split at e) <;> first | (cases e; done) | (cases e; exact ⟨Nat.le_refl _, Nat.le_refl _⟩) | (cases e; exact ⟨Nat.le_succ _, Nat.le_refl _⟩) | (cases e; exact ⟨Nat.le_refl _, Nat.le_succ _⟩)
theorem mm_n_le2 (t n : Nat) : mm_mn (mm_le2 t n) := by
  intro L st S
  constructor <;> intro z e <;> (unfold mm_le2 at e) <;> (try simp only [Bool.cond_eq_ite] at e) <;> (repeat' split at e) <;> first | (cases e; done) | (cases e; exact ⟨Nat.le_refl _, Nat.le_refl _⟩) | (cases e; exact ⟨Nat.le_succ _, Nat.le_refl _⟩) | (cases e; exact ⟨Nat.le_refl _, Nat.le_succ _⟩)
theorem mm_n_le1 (t n : Nat) : mm_mn (mm_le1 t n) := by
  intro L st S
  constructor <;> intro z e <;> (unfold mm_le1 at e) <;> (try simp only [Bool.cond_eq_ite] at e) <;> (repeat' split at e) <;> first | (cases e; done) | (cases e; exact ⟨Nat.le_refl _, Nat.le_refl _⟩) | (cases e; exact ⟨Nat.le_succ _, Nat.le_refl _⟩) | (cases e; exact ⟨Nat.le_refl _, Nat.le_succ _⟩)
theorem mm_n_clV (n ci na : Nat) {f : mm_F} (h : mm_Mo f) : mm_mn (mm_clV n ci na f) := by
  intro L st S
  constructor <;> intro z e <;> (unfold mm_clV at e) <;> (try simp only [Bool.cond_eq_ite] at e) <;> (repeat' split at e) <;> first | (cases e; done) | (cases e; exact h _ _ _ (by assumption))
theorem mm_n_clS (n na : Nat) {f : mm_F} (h : mm_Mo f) : mm_mn (mm_clS n na f) := by
  intro L st S
  constructor <;> intro z e <;> (unfold mm_clS at e) <;> (try simp only [Bool.cond_eq_ite] at e) <;> (repeat' split at e) <;> first | (cases e; done) | (cases e; exact h _ _ _ (by assumption))
theorem mm_mn_run {P : Nat → mm_I} (h : ∀ pc, mm_mn (P pc)) {c : mm_C} {r : mm_R} (hr : mm_run P c = some r) : mm_le c.2.2.2 r.2 := by
  obtain ⟨n, hn⟩ := mm_run_iff.mp hr
  induction n generalizing c with
  | zero => cases hn
  | succ n ih =>
    unfold mm_ex at hn
    split at hn
    · cases hn
    · next c' hc => exact ((h c.1 c.2.1 c.2.2.1 c.2.2.2).1 c' hc).tr (ih (mm_run_iff.mpr ⟨n, hn⟩) hn)
    · next r' hc =>
      cases hn
      exact (h c.1 c.2.1 c.2.2.1 c.2.2.2).2 r hc
def mm_mk (p : Program) (l : Launch) (e : Env) (R : Room) (s : State) (m : MethodId) (args : Array Value) (below : List Frame) (meth : Method) (c : Code) (D : va_G) (tc : Nat → ClassId) (A : Nat → Prop) (S : mm_S) (ad : Nat → Nat) (b : ByteArray) (own : String) (mL : Nat) : mm_cx := (p, l, e, R, s, m, args, below, meth, c, D, tc, A, S, ad, b, own, mL)
def mm_alln : List (Nat × mm_I) → Prop
  | [] => True
  | q :: r => mm_mn q.2 ∧ mm_alln r
theorem mm_alln_mem {ts : List (Nat × mm_I)} (h : mm_alln ts) : ∀ q ∈ ts, mm_mn q.2 := by
  induction ts with
  | nil => intro q hq; cases hq
  | cons a r ih =>
    intro q hq
    rcases List.mem_cons.mp hq with e | e
    · rw [e]; exact h.1
    · exact ih h.2 q e
def mm_allr (x : mm_cx) (Q : State → Prop) (Tg : mm_R) : List (Nat × mm_I) → Prop
  | [] => True
  | q :: r => mm_row x Q Tg q.1 q.2 ∧ mm_allr x Q Tg r
theorem mm_allr_mem {x : mm_cx} {Q : State → Prop} {Tg : mm_R} {ts : List (Nat × mm_I)} (h : mm_allr x Q Tg ts) : ∀ q ∈ ts, mm_row x Q Tg q.1 q.2 := by
  induction ts with
  | nil => intro q hq; cases hq
  | cons a r ih =>
    intro q hq
    rcases List.mem_cons.mp hq with e | e
    · rw [e]; exact h.1
    · exact ih h.2 q e
/-- all of a code's rows hold, whoever calls it -/
def mm_Ok (l : Launch) (y : MethodName) (b : ByteArray) (mL : Nat) (ret : Option FieldType) (fr lo : Nat) (ts : List (Nat × mm_I)) : Prop :=
  (∀ q ∈ ts, mm_mn q.2) ∧ ∀ (p : Program) (e : Env) (cells slots : Nat) (s : State) (m : MethodId) (args : Array Value) (below : List Frame) (meth : Method) (c : Code) (D : va_G) (tc : Nat → ClassId) (A : Nat → Prop) (S : mm_S) (ad : Nat → Nat) (Tg : mm_R),
    mm_X (mm_mk p l e { frames := fr, cells := cells, slots := slots, locals := lo } s m args below meth c D tc A S ad b y.cls mL) → meth.sig.returnType = ret → meth.name = y.name → (∀ z ∈ c.exceptionTable.toList, False) →
    mm_Th (mm_mk p l e { frames := fr, cells := cells, slots := slots, locals := lo } s m args below meth c D tc A S ad b y.cls mL) (mm_Q (mm_mk p l e { frames := fr, cells := cells, slots := slots, locals := lo } s m args below meth c D tc A S ad b y.cls mL) Tg) Tg →
    ∀ q ∈ ts, mm_row (mm_mk p l e { frames := fr, cells := cells, slots := slots, locals := lo } s m args below meth c D tc A S ad b y.cls mL) (mm_Q (mm_mk p l e { frames := fr, cells := cells, slots := slots, locals := lo } s m args below meth c D tc A S ad b y.cls mL) Tg) Tg q.1 q.2
theorem mm_pr_row {x : mm_cx} {Q : State → Prop} {Tg : mm_R} {ts : List (Nat × mm_I)} (h : ∀ q ∈ ts, mm_row x Q Tg q.1 q.2) (pc : Nat) : mm_row x Q Tg pc (mm_pr ts pc) := by
  unfold mm_pr
  split
  · next q hq =>
    have e : q.1 = pc := Nat.eq_of_beq_eq_true (by have h9 := List.find?_some hq; exact h9)
    rw [← e]
    exact h q (List.mem_of_find?_eq_some hq)
  · exact mm_row_none
theorem mm_pr_mn {ts : List (Nat × mm_I)} (h : ∀ q ∈ ts, mm_mn q.2) (pc : Nat) : mm_mn (mm_pr ts pc) := by
  unfold mm_pr
  split
  · next q hq => exact h q (List.mem_of_find?_eq_some hq)
  · exact fun _ _ _ => ⟨fun _ h => (by cases h), fun _ h => (by cases h)⟩
theorem mm_la_spec {vs : List Value} : ∀ (i0 i : Nat) (v : Value), (mm_la vs)[i]? = some (some v) → (i0 + i, v) ∈ lv_args i0 vs := by
  induction vs with
  | nil => intro i0 i v h; simp [mm_la] at h
  | cons w vs ih =>
    intro i0 i v h
    unfold mm_la at h
    unfold lv_args
    by_cases hc : w.category = 2
    · rw [if_pos hc] at h ⊢
      match i, h with
      | 0, h =>
        cases h
        exact List.mem_cons_self
      | 1, h => cases h
      | i + 2, h =>
        have := ih (i0 + 2) i v h
        rw [show i0 + 2 + i = i0 + (i + 2) by omega] at this
        exact List.mem_cons_of_mem _ this
    · rw [if_neg hc] at h ⊢
      match i, h with
      | 0, h =>
        cases h
        exact List.mem_cons_self
      | i + 1, h =>
        have := ih (i0 + 1) i v h
        rw [show i0 + 1 + i = i0 + (i + 1) by omega] at this
        exact List.mem_cons_of_mem _ this
theorem mm_la_map {ad : Nat → Nat} {vs : List Value} : mm_la (vs.map (mm_cv ad)) = (mm_la vs).map (fun o => o.map (mm_cv ad)) := by
  induction vs with
  | nil => rfl
  | cons w vs ih =>
    rw [List.map_cons]
    unfold mm_la
    rw [mm_cv_cat]
    split
    · rw [ih]; rfl
    · rw [ih]; rfl
theorem mm_la_len {vs : List Value} : (mm_la vs).length = (lg_sl vs).length := by
  induction vs with
  | nil => rfl
  | cons w vs ih =>
    have e : lg_sl (w :: vs) = (if w.category = 2 then [Slot.val w, .second] else [.val w]) ++ lg_sl vs := by unfold lg_sl; rw [List.flatMap_cons]
    rw [e]
    unfold mm_la
    split
    · rw [List.length_cons, List.length_cons, ih, List.length_append]; simp; omega
    · rw [List.length_cons, ih, List.length_append]; simp; omega
theorem mm_en_LH {ad : Nat → Nat} {vs : List Value} {n : Nat} (h : (mm_la vs).length ≤ n) : mm_LH ad ((lg_sl (vs.map (mm_cv ad)) ++ List.replicate (n - (lg_sl (vs.map (mm_cv ad))).length) Slot.unset).toArray) n (mm_en n vs) := by
  have hlen : (lg_sl (vs.map (mm_cv ad))).length = (mm_la vs).length := by rw [← mm_la_len, mm_la_map, List.length_map]
  have h1 := lv_entry (vs.map (mm_cv ad)) (n := n) (by rw [hlen]; exact h)
  refine ⟨h1.1, h1.2.1, fun i v e => ?_⟩
  unfold mm_en at e
  have hi : i < (mm_la vs).length := by
    rcases Nat.lt_or_ge i (mm_la vs).length with q | q
    · exact q
    · rw [List.getElem?_append_right q] at e
      have := List.eq_of_mem_replicate (List.mem_of_getElem? e)
      cases this
  rw [List.getElem?_append_left hi] at e
  have e2 : (mm_la (vs.map (mm_cv ad)))[i]? = some (some (mm_cv ad v)) := by rw [mm_la_map, List.getElem?_map, e]; rfl
  have := mm_la_spec 0 i (mm_cv ad v) e2
  rw [Nat.zero_add] at this
  exact h1.2.2 _ this
theorem mm_en_vk {n k : Nat} {vs : List Value} (h : ∀ v ∈ vs, mm_vk k v) : ∀ (i : Nat) (v : Value), (mm_en n vs)[i]? = some (some v) → mm_vk k v := by
  intro i v e
  unfold mm_en at e
  have hm : ∀ (us : List Value), some v ∈ mm_la us → v ∈ us := by
    intro us
    induction us with
    | nil => intro h; cases h
    | cons w us ih =>
      intro h
      unfold mm_la at h
      split at h
      · simp only [List.mem_cons] at h
        rcases h with h | h | h
        · cases h; exact List.mem_cons_self
        · cases h
        · exact List.mem_cons_of_mem _ (ih h)
      · simp only [List.mem_cons] at h
        rcases h with h | h
        · cases h; exact List.mem_cons_self
        · exact List.mem_cons_of_mem _ (ih h)
  rcases List.mem_append.mp (List.mem_of_getElem? e) with q | q
  · exact h v (hm vs q)
  · have := List.eq_of_mem_replicate q
    cases this
theorem mm_ofW {l : Launch} {y : MethodName} {ws ws' : List Cond} {rm : Room} {Pc : Array Value → State → Prop} {Qc : Array Value → State → Outcome → State → Prop} {XC : String → State → State → Prop} {mc ms : Nat} {free : Addr → Prop} {cc : ByteArray} {maxL : Nat} {ret : Option FieldType}
    (hy : plainFor y = true) (hw : ws = Cond.code y cc maxL ret :: ws')
    (body : ∀ p e s m args below meth c s₁, BodyLoose p l y (headSpec ws rm) cc maxL ret e s m args below meth c s₁ → c.maxLocals = maxL → (∀ x ∈ c.exceptionTable.toList, False) → Pc args s →
      W p l e (headSpec ws rm).room s m args below meth c s.heap [] 0 0 (vx_MQ below Qc XC args s mc ms free) (entryFrame m args maxL)) : vx_Met l y ws rm Pc Qc XC mc ms free := by
  refine MetFree.of_bodySF (code := cc) (maxLocals := maxL) (ret := ret) hy ?_ ?_
  · intro args s m h hn
    obtain ⟨meth, c, h1, h2, h3, h4, h5, h6, -, -⟩ := Cond.code_spec hn (atoms_spec (ws := ws) h _ (by rw [hw]; exact List.mem_cons_self))
    exact ⟨meth, c, h1, h2, h3, h4, h5, h6⟩
  · intro p e s m args below meth c s₁ B hml hP _
    have hh0 : s₁.heap = s.heap := by rw [B.state]; rfl
    have ht : ∀ x ∈ c.exceptionTable.toList, False := by
      obtain ⟨meth9, c9, h1, h2, -, -, -, -, h7, -⟩ := Cond.code_spec B.named (atoms_spec (ws := ws) B.pre _ (by rw [hw]; exact List.mem_cons_self))
      cases Option.some.inj (h1.symm.trans B.method)
      cases Option.some.inj (h2.symm.trans (Stand.of_body B).code)
      intro x hx
      rw [Array.isEmpty_iff.mp h7] at hx
      cases hx
    obtain ⟨t, a1, o, b1, b2, b3⟩ := body p e s m args below meth c s₁ B hml ht hP s₁ hh0 (Stand.of_body B)
    exact ⟨t, o, a1, b1, b2, b3⟩
/-- the contract of a method, out of its rows -/
theorem mm_met {l : Launch} {y : MethodName} {b : ByteArray} {mL fr lo : Nat} {ret : Option FieldType} {ts : List (Nat × mm_I)} (hl : l.stackTraces = false) (hy : plainFor y = true) (hOk : mm_Ok l y b mL ret fr lo ts) : mm_Snd l y (.code y b mL ret) fr lo (mm_do (mm_pr ts) mL) := by
  have hdo : ∀ as S r, mm_do (mm_pr ts) mL as S = some r → (mm_la as).length ≤ mL ∧ mm_run (mm_pr ts) (0, mm_en mL as, [], S) = some r := by
    intro as S r h
    unfold mm_do at h
    cases hb : Nat.ble (mm_la as).length mL with
    | false => rw [hb] at h; cases h
    | true => rw [hb] at h; exact ⟨Nat.le_of_ble_eq_true hb, h⟩
  have hmo : mm_Mo (mm_do (mm_pr ts) mL) := fun as S r h => mm_mn_run (c := (0, mm_en mL as, [], S)) (mm_pr_mn hOk.1) (hdo as S r h).2
  refine ⟨hmo, fun D tc ad S as r sz hf hv hRv => ?_⟩
  refine mm_ofW (cc := b) (maxL := mL) (ret := ret) hy rfl ?_
  intro p e s m args below meth c s₁ B hml htab hPc
  obtain ⟨rfl, hsz, hP, hK, hD, hEX, hO⟩ := hPc
  subst hsz
  have hts := atoms_spec (ws := Cond.code y b mL ret :: mm_ws) B.pre
  have X : mm_X (mm_mk p l e { frames := fr, cells := mm_nc r.2 - mm_nc S, slots := mm_ns r.2 - mm_ns S, locals := lo } s m (as.map (mm_cv ad)).toArray below meth c D tc (va_A (mm_w ad tc S) s.heap.size) S ad b y.cls mL) :=
    ⟨B.exec, B.bytes, hml, findClass_of_methodNamed B.named, fun w hw => hts w (List.mem_cons_of_mem _ hw), hK, fun q h => Or.inr h, hEX, hO, B.notSynchronized, hl⟩
  have hrows := hOk.2 p e (mm_nc r.2 - mm_nc S) (mm_ns r.2 - mm_ns S) s m _ below meth c D tc _ S ad r X B.returns (name_of_methodNamed B.named B.method).1 htab (mm_th_out X htab)
  obtain ⟨n, hn⟩ := mm_run_iff.mp (hdo as S r hf).2
  have hW := mm_sound (fun pc => mm_pr_row hrows pc) ⟨Nat.le_refl _, Nat.le_refl _⟩ n (0, mm_en mL as, [], S) hn ad s.heap [] 0 0 _ ⟨hP, hD.self, va_S.rf, mm_en_LH (hdo as S r hf).1, (Nat.sub_self _).symm, (Nat.sub_self _).symm, mm_le.rf S, fun v h => (by cases h), mm_en_vk hv, hRv, fun k _ => rfl, fun k _ => rfl⟩
  rw [lg_entry_eq]
  exact hW
theorem mm_aw1 : mm_aw "Linkcourt" 110 114 1 := ⟨by decide +kernel, by decide +kernel, by decide +kernel⟩
theorem mm_aw2 : mm_aw "Linkcourt" 85 89 2 := ⟨by decide +kernel, by decide +kernel, by decide +kernel⟩
theorem mm_aw3 : mm_aw "Linkcourt" 129 133 3 := ⟨by decide +kernel, by decide +kernel, by decide +kernel⟩
