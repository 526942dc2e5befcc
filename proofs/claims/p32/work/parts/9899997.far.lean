/-! how far it is, when somebody has joined -/
section
variable {K R C : Nat}
theorem conn_rp {a own fr : Int64} {c : Nat} (h : Conn (bN K R C) (bNb K R C) a own c) : RP (bN K R C) (bNb K R C) a own fr 0 c := by
  have w0 : ∀ x, mb own x = true → wt own x = 0 := fun x hx => by unfold wt; rw [if_pos hx]
  refine h.ind (P := fun c => RP (bN K R C) (bNb K R C) a own fr 0 c) (fun c hc a1 a2 => ?_) (fun c d hd _ p q r => ?_)
  · have := RP.base (nb := bNb K R C) (own := own) (fr := fr) hc a1 (Or.inl a2)
    rw [w0 c a2] at this
    exact this
  · have := RP.step p hd q (Or.inl r)
    rw [w0 d r] at this
    exact this
theorem rp_conn {a own fr : Int64} {k c : Nat} (h : RP (bN K R C) (bNb K R C) a own fr k c) : Conn (bN K R C) (bNb K R C) a (own ||| fr) c := by
  have w1 : ∀ x, psw own fr x → mb (own ||| fr) x = true := fun x hx => by
    rw [mb_or, Bool.or_eq_true]; exact hx
  exact h.ind (Q := fun _ c => Conn (bN K R C) (bNb K R C) a (own ||| fr) c) (fun c hc a1 a2 => Conn.base hc a1 (w1 c a2)) (fun n c d hd _ p q r => p.step hd q (w1 d r))
theorem dD_zero (h : bN K R C ≤ 36) {a own fr : Int64} {c : Nat} (hc : Conn (bN K R C) (bNb K R C) a own c) : dD K R C a own fr c = 0 := by
  rcases dD_s h a own fr c with ⟨h1, h2, h3⟩ | ⟨h1, h2⟩
  · have := h3 0 (conn_rp hc)
    omega
  · exact absurd (conn_rp hc) (h2 0)
theorem far_joined (v : bV K R C = true) {own fr : Int64} (hw : ∀ c, mb own c = true → c < bN K R C) (j : jnB K R C 0 own = true) : farA K R C 0 own fr = i32 0 := by
  have bl := bN_le v
  have hK : K = 0 ∨ K = 1 ∨ K = 2 := by
    have := bV_K v
    omega
  unfold farA
  by_cases k1 : K = 1
  · subst k1
    rw [if_pos rfl]
    obtain ⟨c0, c1, c2, ⟨x, x1, x2, x3⟩, ⟨y, y1, y2, y3⟩⟩ := (tri_jn v 0 hw).1 j
    have own0 : mb own c0 = true := x2.ind (P := fun _ => mb own c0 = true) (fun y hy a1 a2 => by
      rw [mb_bit _ _ (by omega), decide_eq_true_eq] at a1
      rw [a1]; exact a2) (fun _ _ _ _ q _ _ => q)
    have base : Conn (bN 1 R C) (bNb 1 R C) (bSs 1 R C 0) own c0 := Conn.base c1 (by rw [sd_mb v 0 c0 c1]; exact c2) own0
    have sw : ∀ {s z : Nat}, Conn (bN 1 R C) (bNb 1 R C) (mbit c0) own z → sdS 1 R C s z = true → Conn (bN 1 R C) (bNb 1 R C) (bSs 1 R C s) own c0 := fun {s z} h1 h2 => by
      have hz := h1.lt
      have h3 := Conn.swp v c1 h1
      refine h3.ind (P := fun q => Conn (bN 1 R C) (bNb 1 R C) (bSs 1 R C s) own q) (fun q hq a1 a2 => ?_) (fun q d hd _ p q r => p.step hd q r)
      rw [mb_bit _ _ (by omega), decide_eq_true_eq] at a1
      subst a1
      exact Conn.base hq (by rw [sd_mb v s z hq]; exact h2) a2
    have d0 := dD_zero bl (fr := fr) base
    have d1 := dD_zero bl (fr := fr) (sw x2 x3)
    have d2 := dD_zero bl (fr := fr) (sw y2 y3)
    have z : far3 1 R C own fr = 0 := by
      have := mn_le (p := fun _ => true) (v := fun c => dD 1 R C (bSs 1 R C 0) own fr c + dD 1 R C (bSs 1 R C 1) own fr c + dD 1 R C (bSs 1 R C 2) own fr c - (if mb fr c = true then 2 else 0)) c1 rfl
      unfold far3
      simp only [d0, d1, d2] at this
      omega
    rw [z, if_pos (by decide)]
  · rw [if_neg k1, if_pos rfl]
    have jl : ldB K R C 0 1 own = true := by
      rcases hK with q | q | q
      · subst q; exact j
      · exact absurd q k1
      · subst q; exact j
    obtain ⟨c, c1, c2, c3⟩ := (ldB_hit v 0 1 own).1 jl
    have z : far2 K R C own fr 0 = 0 := by
      have := mn_le (p := fun c => mb (bSs K R C (0 + 1)) c) (v := dD K R C (bSs K R C 0) own fr) c1 (by show mb (bSs K R C 1) c = true; rw [sd_mb v 1 c c1]; exact c3)
      rw [dD_zero bl c2] at this
      unfold far2
      omega
    rw [z, if_pos (by decide)]
theorem far_never (v : bV K R C = true) {own fr : Int64} (hw : ∀ c, mb (own ||| fr) c = true → c < bN K R C) (hd : ∀ c, mb own c = true → mb fr c = true → False) (j : jnB K R C 0 (own ||| fr) = false) : farA K R C 0 own fr = iN := by
  have bl := bN_le v
  have hK : K = 0 ∨ K = 1 ∨ K = 2 := by
    have := bV_K v
    omega
  unfold farA
  by_cases k1 : K = 1
  · subst k1
    rw [if_pos rfl, if_neg]
    unfold far3
    rcases mn_att (fun _ => true) (fun c => dD 1 R C (bSs 1 R C 0) own fr c + dD 1 R C (bSs 1 R C 1) own fr c + dD 1 R C (bSs 1 R C 2) own fr c - (if mb fr c = true then 2 else 0)) (bN 1 R C) with z | ⟨c, c1, _, c3⟩
    · rw [z]; decide
    · rw [c3]
      have wl : ∀ s, mb fr c = true → 1 ≤ dD 1 R C (bSs 1 R C s) own fr c := fun s hf => by
        have := (dD_wt bl (bSs 1 R C s) own fr c).1
        have e : wt own c = 1 := by unfold wt; rw [if_neg (fun z => hd c z hf)]
        omega
      have some1000 : dD 1 R C (bSs 1 R C 0) own fr c = 1000 ∨ dD 1 R C (bSs 1 R C 1) own fr c = 1000 ∨ dD 1 R C (bSs 1 R C 2) own fr c = 1000 := by
        rcases dD_le bl (bSs 1 R C 0) own fr c with ⟨_, q0⟩ | q0
        · rcases dD_le bl (bSs 1 R C 1) own fr c with ⟨_, q1⟩ | q1
          · rcases dD_le bl (bSs 1 R C 2) own fr c with ⟨_, q2⟩ | q2
            · exfalso
              -- a cell of the side 0 from which c is reached; from c on the sides 1 and 2
              have st : ∀ {s : Nat}, Conn (bN 1 R C) (bNb 1 R C) (bSs 1 R C s) (own ||| fr) c → ∃ z, z < bN 1 R C ∧ sdS 1 R C s z = true ∧ Conn (bN 1 R C) (bNb 1 R C) (mbit z) (own ||| fr) c := fun {s} h => by
                refine h.ind (P := fun c => ∃ z, z < bN 1 R C ∧ sdS 1 R C s z = true ∧ Conn (bN 1 R C) (bNb 1 R C) (mbit z) (own ||| fr) c) (fun x hx a1 a2 => ⟨x, hx, by rw [← sd_mb v s x hx]; exact a1, Conn.base hx (by rw [mb_bit _ _ (by omega)]; exact decide_eq_true rfl) a2⟩) (fun x d hd _ ⟨z, z1, z2, z3⟩ q r => ⟨z, z1, z2, z3.step hd q r⟩)
              obtain ⟨a, a1, a2, a3⟩ := st (rp_conn q0)
              obtain ⟨b, b1, b2, b3⟩ := st (rp_conn q1)
              obtain ⟨d, d1, d2, d3⟩ := st (rp_conn q2)
              have t : jnB 1 R C 0 (own ||| fr) = true := (tri_jn v 0 hw).2 ⟨a, a1, a2, ⟨b, b1, Conn.tr v a3 (Conn.swp v b1 b3), b2⟩, ⟨d, d1, Conn.tr v a3 (Conn.swp v d1 d3), d2⟩⟩
              rw [j] at t; cases t
            · exact Or.inr (Or.inr q2)
          · exact Or.inr (Or.inl q1)
        · exact Or.inl q0
      by_cases hf : mb fr c = true
      · have := wl 0 hf
        have := wl 1 hf
        have := wl 2 hf
        rw [if_pos hf]
        omega
      · rw [if_neg hf]
        omega
  · rw [if_neg k1, if_pos rfl, if_neg]
    have jl : ¬ ldB K R C 0 1 (own ||| fr) = true := by
      intro z
      have : jnB K R C 0 (own ||| fr) = true := by
        rcases hK with q | q | q
        · subst q; exact z
        · exact absurd q k1
        · subst q; exact z
      rw [j] at this; cases this
    unfold far2
    rcases mn_att (fun c => mb (bSs K R C (0 + 1)) c) (dD K R C (bSs K R C 0) own fr) (bN K R C) with z | ⟨c, c1, c2, c3⟩
    · rw [z]; decide
    · rw [c3]
      rcases dD_le bl (bSs K R C 0) own fr c with ⟨_, q0⟩ | q0
      · exfalso
        refine jl ((ldB_hit v 0 1 _).2 ⟨c, c1, rp_conn q0, ?_⟩)
        rw [← sd_mb v 1 c c1]
        exact c2
      · rw [q0]; decide
/-! games played out -/
theorem po_spec (v : bV K R C = true) : ∀ (f : Nat) (a b : Int64) (t l n : Nat), t < 2 → (∀ c, mb a c = true → c < bN K R C) → (∀ c, mb a c = true → mb b c = false) → gn (emp (bN K R C) a b) = f → (∀ c, mb a c = true → mb (po K R C f a b t l n) c = true) ∧ (∀ c, mb b c = true → mb (po K R C f a b t l n) c = false) ∧ (∀ c, mb (po K R C f a b t l n) c = true → c < bN K R C) ∧ cf (mb (po K R C f a b t l n)) 36 = cf (mb a) 36 + (f + 1 - t) / 2 := by
  have bl := bN_le v
  intro f
  induction f with
  | zero =>
    intro a b t l n ht ha hd hg
    refine ⟨fun c h => h, fun c h => bool_f (fun z => by
      have z : mb a c = true := z
      rw [hd c z] at h; cases h), ha, ?_⟩
    show cf (mb a) 36 = cf (mb a) 36 + (0 + 1 - t) / 2
    omega
  | succ f ih =>
    intro a b t l n ht ha hd hg
    have h36 : ∀ c, mb (emp (bN K R C) a b) c = true → c < 36 := fun c hc => emp36 bl a b c hc
    obtain ⟨m1, _⟩ := poC_mem (K := K) (R := R) (C := C) (mine := if t = 0 then a else b) (l := l) (n := n) h36 (by omega)
    obtain ⟨d, hdd⟩ : ∃ d, d = poC K R C (if t = 0 then a else b) (emp (bN K R C) a b) l n := ⟨_, rfl⟩
    rw [← hdd] at m1
    obtain ⟨_, g2, _⟩ := emp_pt bl ht m1
    obtain ⟨dn, da, db⟩ := (emp_EH bl a b d).1 m1
    have e : po K R C (f + 1) a b t l n = po K R C f (pt t 0 d a) (pt t 1 d b) (1 - t) d (poN K R C (if t = 0 then a else b) (emp (bN K R C) a b) l n) := by rw [hdd]; rfl
    have mp : ∀ p x c, mb (pt t p d x) c = (mb x c || (decide (t = p) && decide (d = c))) := fun p x c => by
      unfold pt
      by_cases q : t = p
      · rw [if_pos q, mb_or, mb_bit _ _ (by omega), decide_eq_true q, Bool.true_and]
      · rw [if_neg q, decide_eq_false q, Bool.false_and, Bool.or_false]
    obtain ⟨i1, i2, i3, i4⟩ := ih (pt t 0 d a) (pt t 1 d b) (1 - t) d (poN K R C (if t = 0 then a else b) (emp (bN K R C) a b) l n) (by omega) (fun c hc => by
      rw [mp, Bool.or_eq_true, Bool.and_eq_true, decide_eq_true_eq, decide_eq_true_eq] at hc
      rcases hc with h | h
      · exact ha c h
      · omega) (fun c hc => by
      rw [mp, Bool.or_eq_true, Bool.and_eq_true, decide_eq_true_eq, decide_eq_true_eq] at hc
      rw [mp]
      rcases hc with h | h
      · have h2 : d ≠ c := fun z => by rw [z, h] at da; cases da
        rw [hd c h, decide_eq_false h2, Bool.and_false]; rfl
      · rw [← h.2, db, h.1]; rfl) (by omega)
    rw [e]
    refine ⟨fun c h => i1 c (by rw [mp, h]; rfl), fun c h => i2 c (by rw [mp, h]; rfl), i3, ?_⟩
    rw [i4]
    rcases (show t = 0 ∨ t = 1 by omega) with q | q
    · subst q
      have : cf (mb (pt 0 0 d a)) 36 = cf (mb a) 36 + 1 := cf_add (k := d) (by omega) da (by rw [mp, decide_eq_true rfl, decide_eq_true rfl]; simp) (fun c hc => by rw [mp, show decide (d = c) = false from decide_eq_false (fun z => hc z.symm)]; simp)
      rw [this]
      omega
    · subst q
      have : pt 1 0 d a = a := by unfold pt; rw [if_neg (by decide)]
      rw [this]
      omega
/-- how many stones player 0 has -/
def st0c (f : Nat) : Nat → Nat
  | 0 => 0
  | m + 1 => st0c f m + (if f ≤ m ∧ m % 2 = 0 then 1 else 0)
theorem st0c_0 : ∀ m, st0c 0 m = (m + 1) / 2 := by
  intro m
  induction m with
  | zero => rfl
  | succ m ih =>
    show st0c 0 m + _ = _
    rw [ih]
    split <;> omega
theorem st0c_1 : ∀ m, st0c 1 m = (m + 1) / 2 - 1 := by
  intro m
  induction m with
  | zero => rfl
  | succ m ih =>
    show st0c 1 m + _ = _
    rw [ih]
    split <;> omega
theorem cf_st0 {lg : Nat → Nat} {f : Nat} : ∀ m, (∀ i, i < m → lg i < 36) → Dst lg f m → cf (mb (stN lg f 0 m)) 36 = st0c f m := by
  intro m
  induction m with
  | zero => intro _ _; exact cf_zero 36 (fun c => mb_zero c)
  | succ m ih =>
    intro hl hd
    have i := ih (fun i hi => hl i (by omega)) (fun i j h1 h2 h3 => hd i j h1 h2 (by omega))
    have e : lgp lg m (lg m) = lg := by
      funext j
      unfold lgp
      split
      · next q => rw [q]
      · rfl
    have p := stN_put lg f 0 m (lg m)
    rw [e] at p
    rw [p]
    show _ = st0c f m + _
    by_cases q : f ≤ m ∧ m % 2 = 0
    · rw [if_pos q, if_pos q, ← i]
      have l36 := hl m (by omega)
      refine cf_add (k := lg m) l36 ?_ ?_ (fun c hc => ?_)
      · refine bool_f (fun z => ?_)
        have := (mb_st01 (f := f) (n := m) (lg := lg) (fun i hi => hl i (by omega)) (lg m)).1 (by rw [z]; rfl)
        obtain ⟨j, j1, j2, j3⟩ := this
        exact hd j m j2 j1 (by omega) j3
      · rw [mb_or, mb_bit _ _ (by omega), decide_eq_true rfl, Bool.or_true]
      · rw [mb_or, mb_bit _ _ (by omega), decide_eq_false (fun z => hc z.symm), Bool.or_false]
    · rw [if_neg q, if_neg q, or_zero64, i]
      rfl
theorem po_count {lg : Nat → Nat} {m : Nat} {sw : Bool} (w : WG K R C lg m sw) (s : Nat) : (∀ c, mb (sN lg m sw 0) c = true → mb (poV K R C lg m sw s) c = true) ∧ (∀ c, mb (sN lg m sw 1) c = true → mb (poV K R C lg m sw s) c = false) ∧ (∀ c, mb (poV K R C lg m sw s) c = true → c < bN K R C) ∧ bN K R C / 2 ≤ cf (mb (poV K R C lg m sw s)) 36 ∧ cf (mb (poV K R C lg m sw s)) 36 ≤ (bN K R C + 1) / 2 := by
  have sub : ∀ p, p < 2 → ∀ c, mb (sN lg m sw p) c = true → c < bN K R C := fun p hp c hc => by
    have := (mb_st01 (f := kf sw m) (n := m) (lg := lg) w.n36 c).1 (by
      rcases (show p = 0 ∨ p = 1 by omega) with q | q
      · subst q; rw [hc]; rfl
      · subst q; rw [hc, Bool.or_true])
    obtain ⟨i, i1, i2, i3⟩ := this
    rw [← i3]
    exact w.2.1 i i1
  obtain ⟨p1, p2, p3, p4⟩ := po_spec w.1 (gn (emp (bN K R C) (sN lg m sw 0) (sN lg m sw 1))) (sN lg m sw 0) (sN lg m sw 1) (m % 2) 64 s (Nat.mod_lt _ (by decide)) (sub 0 (by decide)) (fun c hc => sN_disj w (p := 0) (by decide) c hc) rfl
  refine ⟨p1, p2, p3, ?_⟩
  have c0 := cf_st0 (f := kf sw m) m w.n36 w.2.2.1
  have g := gn_aS w (n := m) (Nat.le_refl _)
  have g : gn (emp (bN K R C) (sN lg m sw 0) (sN lg m sw 1)) + (m - kf sw m) = bN K R C := g
  have e : cf (mb (poV K R C lg m sw s)) 36 = st0c (kf sw m) m + (gn (emp (bN K R C) (sN lg m sw 0) (sN lg m sw 1)) + 1 - m % 2) / 2 := by rw [← c0]; exact p4
  rw [e]
  cases sw with
  | false =>
    rw [kf_f] at g ⊢
    rw [st0c_0]
    omega
  | true =>
    have m2 := w.2.2.2 rfl
    rw [kf_t (show 1 < m by omega)] at g ⊢
    rw [st0c_1]
    omega
end
