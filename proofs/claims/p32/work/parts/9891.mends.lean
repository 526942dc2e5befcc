/-! playing out: the bridge that the last stone broke, reference -/
def LsI (P : Nat → Prop) (v : Int32) : Prop := (v = iN ∧ ∀ c, ¬ P c) ∨ (∃ c, c < 36 ∧ v = i32 c ∧ P c ∧ ∀ d, d < c → ¬ P d)
def OtP (K R C : Nat) (mine em : Int64) (l x y c : Nat) : Prop := BrP K R C mine l x y ∧ mb (bNb K R C x) c = true ∧ mb (bNb K R C y) c = true ∧ mb em c = true
theorem LsI.cg {P Q : Nat → Prop} {v : Int32} (h : LsI P v) (hPQ : ∀ c, P c ↔ Q c) : LsI Q v := by
  rcases h with ⟨h1, h2⟩ | ⟨c, h1, h2, h3, h4⟩
  · exact Or.inl ⟨h1, fun c z => h2 c ((hPQ c).2 z)⟩
  · exact Or.inr ⟨c, h1, h2, (hPQ c).1 h3, fun d hd z => h4 d hd ((hPQ d).2 z)⟩
theorem cf_thr {p : Nat → Bool} {a b c : Nat} (ha : p a = true) (hb : p b = true) (hc : p c = true) (hab : a < b) (hbc : b < c) (h : c < 36) : 3 ≤ cf p 36 := by
  have h1 := cf_inj hab ha
  have h2 := cf_inj hbc hb
  have h3 := cf_s hc
  have h4 : cf p (c + 1) ≤ cf p 36 := cf_mono (by omega)
  omega
theorem two_other {E : Int64} {l : Nat} (h : gn E = 2) (hl : l < 36) (hm : mb E l = true) (h36 : ∀ c, mb E c = true → c < 36) : ¬ (E &&& (mbit l ^^^ (-1)) = 0) ∧ ∀ c, mb E c = true → c ≠ l → c = mlo (E &&& (mbit l ^^^ (-1))) := by
  have bits : ∀ c, mb (E &&& (mbit l ^^^ (-1))) c = (mb E c && !decide (c = l)) := by
    intro c
    rcases Nat.lt_or_ge c 64 with q | q
    · rw [mb_and, mb_cpl _ _ q, mb_bit _ _ (by omega)]
      by_cases y : l = c
      · rw [decide_eq_true y, decide_eq_true y.symm]
      · rw [decide_eq_false y, decide_eq_false (fun z => y z.symm)]
    · rw [mb_hi _ _ q, mb_hi _ _ q]; rfl
  have ex : ∃ c, mb E c = true ∧ c ≠ l := by
    have g : ∀ k, k < 2 → ∃ c, c < 36 ∧ mb E c = true ∧ cf (mb E) c = k := fun k hk => cf_hit 36 k (by rw [show cf (mb E) 36 = 2 from h]; exact hk)
    obtain ⟨a, a1, a2, a3⟩ := g 0 (by decide)
    obtain ⟨b, b1, b2, b3⟩ := g 1 (by decide)
    by_cases q : a = l
    · exact ⟨b, b2, fun z => by rw [q, ← z, b3] at a3; omega⟩
    · exact ⟨a, a2, q⟩
  obtain ⟨c, c1, c2⟩ := ex
  have ne : ¬ (E &&& (mbit l ^^^ (-1)) = 0) := mne_of (j := c) (by rw [bits, c1, decide_eq_false c2]; rfl)
  refine ⟨ne, fun d d1 d2 => ?_⟩
  have o1 := mlo_mb ne
  rw [bits, Bool.and_eq_true, Bool.not_eq_true', decide_eq_false_iff_not] at o1
  obtain ⟨o2, o3⟩ := o1
  generalize mlo (E &&& (mbit l ^^^ (-1))) = o at o2 o3 ⊢
  have d36 := h36 d d1
  have o36 := h36 o o2
  apply Classical.byContradiction
  intro hne
  have h2 : cf (mb E) 36 = 2 := h
  rcases Nat.lt_trichotomy d o with q | q | q
  · rcases Nat.lt_trichotomy l d with y | y | y
    · have := cf_thr hm d1 o2 y q o36; omega
    · exact d2 y.symm
    · rcases Nat.lt_trichotomy l o with z | z | z
      · have := cf_thr d1 hm o2 y z o36; omega
      · exact o3 z.symm
      · have := cf_thr d1 o2 hm q z hl; omega
  · exact hne q
  · rcases Nat.lt_trichotomy l o with y | y | y
    · have := cf_thr hm o2 d1 y q d36; omega
    · exact o3 y.symm
    · rcases Nat.lt_trichotomy l d with z | z | z
      · have := cf_thr o2 hm d1 y z d36; omega
      · exact d2 z.symm
      · have := cf_thr o2 d1 hm q z hl; omega
theorem LsI_sv {K R C : Nat} {mine em : Int64} {l : Nat} (h36 : ∀ c, mb em c = true → c < 36) {v : Int32} (h : LsI (fun c => SvP K R C mine l c ∧ mb em c = true) v) : v = svI K R C mine em l := by
  have bits : ∀ c, mb (svW K R C mine em l) c = true ↔ (SvP K R C mine l c ∧ mb em c = true) := by
    intro c
    unfold svW
    rw [mb_ms _ _ _ (by decide), Bool.and_eq_true, Bool.and_eq_true, decide_eq_true_eq, pdec_t]
    exact ⟨fun z => ⟨z.2.2, z.2.1⟩, fun z => ⟨h36 c z.2, z.2, z.1⟩⟩
  unfold svI
  rcases h with ⟨h1, h2⟩ | ⟨c, h1, h2, h3, h4⟩
  · rw [if_pos, h1]
    apply mb_ext
    intro c hc
    rw [mb_zero]
    exact bool_f (fun z => h2 c ((bits c).1 z))
  · have hc := (bits c).2 h3
    rw [if_neg (mne_of hc), h2, mlo_of hc (fun j hj => bool_f (fun z => h4 j hj ((bits j).1 z)))]
section
variable {K R C : Nat} (k : Nat) (r : Nat → Nat → Value) (e : Nat) (I : Nat → Nat → Int32) (J : Nat → Nat → Int64) (A : Nat → Nat → Int32) (B : Nat → Nat → Int64)
end
