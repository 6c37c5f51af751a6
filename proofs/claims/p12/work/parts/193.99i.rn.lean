/-! where a thing's codes stand, and what stands open there -/
abbrev st (σ : RS) (c : Nat) : Option SS := Ss (aI σ 19) (aI σ 20) c
abbrev zt (σ : RS) (c : Nat) : Option (List Nat) := Et (aI σ 19) (aI σ 20) (aI σ 21) (aI σ 81) c
theorem Ss_mc {o a : Nat → Int32} : ∀ (t c : Nat), (∀ i, c ≤ i → i < c + t → ∀ s, Ss o a i = some s → s.1 ≠ []) → ∀ s s', Ss o a c = some s → Ss o a (c + t) = some s' → s'.2 = s.2 := by
  intro t
  induction t with
  | zero =>
    intro c _ s s' h1 h2
    rw [Nat.add_zero, h1] at h2
    rw [Option.some.inj h2]
  | succ t ih =>
    intro c h s s' h1 h2
    obtain ⟨s0, q1, q2⟩ := Ss_step (i := c + t) h2
    have e := ih c (fun i a1 a2 => h i a1 (by omega)) s s0 h1 q1
    rw [← e]
    refine (sSt_nl q2).2.2.1 (fun z => ?_)
    have hne := h (c + t) (by omega) (by omega) s0 q1
    rw [z] at q2
    have q2 : (if s0.1 = [] then some ([], s0.2 + 1) else none) = some s' := q2
    rw [if_neg hne] at q2
    cases q2
theorem PK.beg {σ : RS} (h : PK σ) {c : Nat} (hc : c ≤ nT (gI σ 18)) {l : List (Nat × Nat)} {x k : Nat} {r : List (Nat × Nat)} {m : Nat} (hs : st σ c = some (l ++ (x, k) :: r, m)) (h20 : x ≠ 20) : ∃ b, b < c ∧ (kpu (nT (aI σ 19 b)) = true ∧ nT (aI σ 19 b) = bs x) ∧ nT (aI σ 20 b) = k ∧ st σ b = some (r, m) := by
  obtain ⟨b, b1, b2, b3, ⟨m', b4⟩, b5⟩ := h.back c hc l x k r m hs h20
  refine ⟨b, b1, b2, b3, ?_⟩
  obtain ⟨_, _, s0, s1, p⟩ := h.j.pc (show b < nT (gI σ 18) by omega)
  have e0 : s0 = (r, m') := Option.some.inj (p.hs.symm.trans b4)
  have e1 : s1.2 = s0.2 := (sSt_nl p.ss).2.2.1 (fun z => by
    have := b2.1
    rw [z] at this
    exact absurd this (by decide))
  have e2 := Ss_mc (o := aI σ 19) (a := aI σ 20) (c - (b + 1)) (b + 1) (fun i a1 a2 s hq => by
    obtain ⟨l', y, m2, _, q⟩ := b5 i (by omega) (by omega)
    rw [q] at hq
    obtain rfl := Option.some.inj hq
    show l' ++ _ ≠ []
    simp) s1 (l ++ (x, k) :: r, m) p.hs' (by rw [show b + 1 + (c - (b + 1)) = c by omega]; exact hs)
  have e2 : m = s1.2 := e2
  have e3 : m' = m := by rw [e2, e1, e0]
  rw [← e3]
  exact b4
/-- what stands open under a thing is always the same -/
theorem PK.rest {σ : RS} (h : PK σ) {c d : Nat} (hc : c ≤ nT (gI σ 18)) (hd : d ≤ nT (gI σ 18)) {l l' : List (Nat × Nat)} {x x' k : Nat} {r r' : List (Nat × Nat)} {m m' : Nat} (hs : st σ c = some (l ++ (x, k) :: r, m)) (h20 : x ≠ 20) (hs' : st σ d = some (l' ++ (x', k) :: r', m')) (h20' : x' ≠ 20) : r' = r ∧ m' = m ∧ bs x' = bs x := by
  obtain ⟨b, b1, b2, b3, b4⟩ := h.beg hc hs h20
  obtain ⟨b', c1, c2, c3, c4⟩ := h.beg hd hs' h20'
  have e : b = b' := by
    rcases Nat.lt_trichotomy b b' with q | q | q
    · exact absurd (b3.trans c3.symm) (h.up b b' q (by omega) b2.1 c2.1)
    · exact q
    · exact absurd (c3.trans b3.symm) (h.up b' b q (by omega) c2.1 b2.1)
  subst e
  have e := Option.some.inj (b4.symm.trans c4)
  exact ⟨(congrArg Prod.fst e).symm, (congrArg Prod.snd e).symm, c2.2.symm.trans b2.2⟩
/-- a code of a thing that comes later than the sort with which it stands open -/
theorem PK.code {σ : RS} (h : PK σ) {c p : Nat} (hc : c ≤ nT (gI σ 18)) (hp : p < nT (gI σ 18)) {l : List (Nat × Nat)} {x k : Nat} {r : List (Nat × Nat)} {m : Nat} (hs : st σ c = some (l ++ (x, k) :: r, m)) (h20 : x ≠ 20) (ha : nT (aI σ 20 p) = k) (ht : (∃ y, tfr (nT (aI σ 19 p)) y = true) ∨ ∃ y, tcl (nT (aI σ 19 p)) y = true) : (x < nT (aI σ 19 p) → c ≤ p) ∧ (∃ y, (y ≠ 20 ∧ bs y = bs x) ∧ st σ p = some ((y, k) :: r, m)) ∧ ((∃ y, tfr (nT (aI σ 19 p)) y = true) → st σ (p + 1) = some ((nT (aI σ 19 p), k) :: r, m)) ∧ ((∃ y, tcl (nT (aI σ 19 p)) y = true) → st σ (p + 1) = some (r, m)) := by
  obtain ⟨_, _, s0, s1, P⟩ := h.j.pc hp
  have hu := h.up
  have em : s1.2 = s0.2 := (sSt_nl P.ss).2.2.1 (fun z => by
    rw [z] at ht
    rcases ht with ⟨y, q⟩ | ⟨y, q⟩
    · exact (tfr_54 q).1 rfl
    · unfold tcl at q
      simp only [Bool.or_eq_true, Bool.and_eq_true, beq_iff_eq] at q
      omega)
  have nb : ∀ {y : Nat}, tfr (nT (aI σ 19 p)) y = true → (∃ y, tcl (nT (aI σ 19 p)) y = true) → False := by
    intro y q1 ⟨y', q2⟩
    unfold tfr at q1
    unfold tcl at q2
    simp only [Bool.or_eq_true, Bool.and_eq_true, beq_iff_eq] at q1 q2
    omega
  rcases sSt_act P.ss ht with ⟨y, r2, t1, t2, t3⟩ | ⟨y, r2, t1, t2, t3⟩
  · rw [ha] at t2 t3
    have e0 : s0 = ([] ++ (y, k) :: r2, s0.2) := Prod.ext t2 rfl
    have hst : st σ p = some ([] ++ (y, k) :: r2, s0.2) := by rw [← e0]; exact P.hs
    obtain ⟨g1, g2, g3⟩ := h.rest hc (Nat.le_of_lt hp) hs h20 hst (tfr_lt t1).2.1
    subst g1
    have h1 : st σ (p + 1) = some ((nT (aI σ 19 p), k) :: r2, m) := by
      have e1 : s1 = ((nT (aI σ 19 p), k) :: r2, s0.2) := Prod.ext t3 em
      rw [← g2, ← e1]; exact P.hs'
    refine ⟨fun hx => ?_, ⟨y, ⟨(tfr_lt t1).2.1, g3⟩, by rw [g2] at hst; exact hst⟩, fun _ => h1, fun q => (nb t1 q).elim⟩
    refine Nat.le_of_not_lt (fun hlt => ?_)
    obtain ⟨b, b1, b2, b3, b4⟩ := h.beg (Nat.le_of_lt hp) hst (tfr_lt t1).2.1
    have hy := Ss_mono (y := nT (aI σ 19 p)) hu (show b < p + 1 by omega) b2.1 b3 _ h1 (fun q hq q20 qk => by
      rcases List.mem_cons.mp hq with rfl | hq
      · exact Nat.le_refl _
      · have nd := Ss_nd hu (p + 1) (by omega) _ h1
        exact absurd qk.symm ((List.pairwise_cons.mp nd).1 q hq (tfr_lt t1).2.2.1 q20)) c (by omega) hc _ hs (x, k) (List.mem_append_right _ List.mem_cons_self) h20 rfl
    have hy : nT (aI σ 19 p) ≤ x := hy
    omega
  · rw [ha] at t2
    have e0 : s0 = ([] ++ (y, k) :: r2, s0.2) := Prod.ext t2 rfl
    have hst : st σ p = some ([] ++ (y, k) :: r2, s0.2) := by rw [← e0]; exact P.hs
    obtain ⟨g1, g2, g3⟩ := h.rest hc (Nat.le_of_lt hp) hs h20 hst (tcl_x t1).2.1
    subst g1
    have h1 : st σ (p + 1) = some (r2, m) := by
      have e1 : s1 = (r2, s0.2) := Prod.ext t3 em
      rw [← g2, ← e1]; exact P.hs'
    refine ⟨fun _ => ?_, ⟨y, ⟨(tcl_x t1).2.1, g3⟩, by rw [g2] at hst; exact hst⟩, fun ⟨y', q⟩ => (nb q ⟨y, t1⟩).elim, fun _ => h1⟩
    refine Nat.le_of_not_lt (fun hlt => ?_)
    obtain ⟨b, b1, b2, b3, b4⟩ := h.beg (Nat.le_of_lt hp) hst (tcl_x t1).2.1
    refine Ss_gone hu (show b < p + 1 by omega) b2.1 b3 _ h1 (fun q hq q20 qk => ?_) c (by omega) hc _ hs (x, k) (List.mem_append_right _ List.mem_cons_self) h20 rfl
    have nd := Ss_nd hu p (by omega) _ hst
    exact (List.pairwise_cons.mp nd).1 q hq (tcl_x t1).2.1 q20 qk.symm
/-- its end -/
theorem PK.end {σ : RS} (h : PK σ) {c : Nat} (hc : c ≤ nT (gI σ 18)) {l : List (Nat × Nat)} {x k : Nat} {r : List (Nat × Nat)} {m : Nat} (hs : st σ c = some (l ++ (x, k) :: r, m)) (h20 : x ≠ 20) : (0 ≤ aI σ 55 k ∧ c ≤ nT (aI σ 55 k) ∧ nT (aI σ 55 k) < nT (gI σ 18)) ∧ st σ (nT (aI σ 55 k) + 1) = some (r, m) ∧ 19 ≤ nT (aI σ 19 (nT (aI σ 55 k))) := by
  obtain ⟨b, e, ⟨h1, h2, h3⟩, h4, ⟨h5, h6, ⟨m', h7⟩, h8, h9⟩, h10⟩ := h.life hc hs h20
  obtain ⟨g1, g2, g3, g4⟩ := h.code hc h3 hs h20 h6 (Or.inr h5)
  rw [h9]
  refine ⟨⟨h8, h2, h3⟩, g4 h5, ?_⟩
  obtain ⟨y, hy⟩ := h5
  unfold tcl at hy
  simp only [Bool.or_eq_true, Bool.and_eq_true, beq_iff_eq] at hy
  omega
/-- a thing is a thing -/
theorem PK.thg {σ : RS} (h : PK σ) {c : Nat} (hc : c ≤ nT (gI σ 18)) {l : List (Nat × Nat)} {x k : Nat} {r : List (Nat × Nat)} {m : Nat} (hs : st σ c = some (l ++ (x, k) :: r, m)) (h20 : x ≠ 20) : k < nT (gI σ 49) := by
  obtain ⟨b, b1, b2, b3, b4⟩ := h.beg hc hs h20
  obtain ⟨_, _, s0, s1, P⟩ := h.j.pc (show b < nT (gI σ 18) by omega)
  have := P.hce.2.2.2.2.1 (kpu_kop b2.1)
  rw [← b3]
  exact nT_lt this.1 this.2
/-- rows of a thing's numbers that are set -/
theorem PK.num {σ : RS} (h : PK σ) {k r : Nat} (hk : k < nT (gI σ 49)) (hr : 52 ≤ r ∧ r ≤ 58) : aI σ r k = -2 ∨ (0 ≤ aI σ r k ∧ nT (aI σ r k) < nT (gI σ 18) ∧ ksl (nT (aI σ 19 (nT (aI σ r k)))) = r ∧ nT (aI σ 20 (nT (aI σ r k))) = k) := by
  obtain ⟨f, kk, j, hp⟩ := h
  have hT := hp.2.2.2.2.1.1 r hr.1 hr.2 k hk
  have e : aI (sI (sA σ 59 f) 62 0) r = aI σ r := aI_ne (by omega)
  rw [e] at hT
  rcases hT with q | ⟨q1, q2, q3, q4⟩
  · exact Or.inl q
  · exact Or.inr ⟨q1, nT_lt q1 q2, q3, q4⟩
