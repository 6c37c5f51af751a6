/-! things of S's go up -/
def MoR (z : ZS) (a k b m : Nat) : Prop := (a ≤ b ∧ k ≤ m) ∧ ∀ i, a ≤ i → i < b → ((k : Int) ≤ thS z i ∧ thS z i ≤ (m : Int)) ∧ (OwK z i → thS z i < (m : Int) ∧ ∀ j, i < j → j < b → thS z i < thS z j)
section
variable {z : ZS} {a b c k m n : Nat}
theorem MoR.rf : MoR z a k a k := ⟨⟨Nat.le_refl _, Nat.le_refl _⟩, fun i h1 h2 => by omega⟩
theorem MoR.tr (h : MoR z a k b m) (g : MoR z b m c n) : MoR z a k c n := by
  obtain ⟨⟨a1, a2⟩, a3⟩ := h
  obtain ⟨⟨b1, b2⟩, b3⟩ := g
  refine ⟨⟨by omega, by omega⟩, fun i h1 h2 => ?_⟩
  by_cases e : i < b
  · obtain ⟨⟨c1, c2⟩, c3⟩ := a3 i h1 e
    refine ⟨⟨c1, by omega⟩, fun o => ?_⟩
    obtain ⟨d1, d2⟩ := c3 o
    refine ⟨by omega, fun j e1 e2 => ?_⟩
    by_cases f : j < b
    · exact d2 j e1 f
    · have := (b3 j (by omega) e2).1.1
      omega
  · obtain ⟨⟨c1, c2⟩, c3⟩ := b3 i (by omega) h2
    refine ⟨⟨by omega, c2⟩, c3⟩
/-- one with no thing of its own -/
theorem MoR.l1 (h : thS z a = (k : Int)) (o : ¬ OwK z a) : MoR z a k (a + 1) k := ⟨⟨by omega, Nat.le_refl _⟩, fun i h1 h2 => by
  have e : i = a := by omega
  subst e
  exact ⟨⟨by omega, by omega⟩, fun q => absurd q o⟩⟩
/-- one with a thing of its own -/
theorem MoR.ow (h : thS z a = (k : Int)) (g : MoR z (a + 1) (k + 1) b m) : MoR z a k b m := by
  obtain ⟨⟨b1, b2⟩, b3⟩ := g
  refine ⟨⟨by omega, by omega⟩, fun i h1 h2 => ?_⟩
  by_cases e : i = a
  · subst e
    refine ⟨⟨by omega, by omega⟩, fun _ => ⟨by omega, fun j e1 e2 => ?_⟩⟩
    have := (b3 j (by omega) e2).1.1
    omega
  · obtain ⟨⟨c1, c2⟩, c3⟩ := b3 i (by omega) h2
    exact ⟨⟨by omega, c2⟩, c3⟩
end
section
variable {N : Int → Int} {M : Int} {z : ZS} {St : SsT} {Rw : RsT} {lv : Int}
theorem ow_no {j : Nat} (h : kjS z j = 90 ∨ kjS z j = 91 ∨ kjS z j = 93 ∨ kjS z j = 94 ∨ kjS z j = 4 ∨ kjS z j = 92 ∨ kjS z j = 62 ∨ kjS z j = 63 ∨ kjS z j = 64 ∨ kjS z j = 65 ∨ kjS z j = 66 ∨ kjS z j = 67) : ¬ OwK z j := by
  unfold OwK
  omega
theorem mo_va {j k : Nat} {h : Int × Int × Int × Int} {l m : List ItZ} (v : VaD z j h (k : Int) l m) (hk : h.1 = 91 ∨ h.1 = 93) : MoR z j k (j + 1) k := by
  obtain ⟨v, t, _, hv⟩ := v
  rcases hv with ⟨R, rfl⟩ | ⟨m0, r, x, hx, R, _, rfl⟩
  · exact MoR.l1 R.thi (ow_no (by have := R.kj; omega))
  · exact MoR.l1 R.thi (ow_no (by have := R.kj; omega))
theorem mo_fx {a : Int} : ∀ {L : List Nat} {p q : Ps}, FxD z lv a L p q → MoR z p.1 p.2.1 q.1 q.2.1 := by
  intro L
  induction L with
  | nil => intro p q h; rw [show q = p from h]; exact MoR.rf
  | cons j L ih =>
    intro p q ⟨e, _, t, m, r, D, hx, h⟩
    have g := ih h
    subst e
    exact (MoR.l1 D.thi (ow_no (by have := D.kj; omega))).tr g
theorem mo_fi {j : Nat} {o : Int} {p q : Ps} (h : FiD z lv j o p q) : MoR z p.1 p.2.1 q.1 q.2.1 := by
  rcases h with ⟨_, rfl⟩ | ⟨_, t, m, hv, _, rfl⟩ | ⟨L, _, _, h⟩
  · exact MoR.rf
  · exact mo_va hv (Or.inr rfl)
  · exact mo_fx h
theorem mo_row {sw : Int} {k : Nat} {a : Int} (hS : ∀ a p q, St a p q → MoR z p.1 p.2.1 q.1 q.2.1) : ∀ {L : List Nat} {p q : Ps}, RwD St z lv sw k a L p q → MoR z p.1 p.2.1 q.1 q.2.1 := by
  intro L
  induction L with
  | nil => intro p q h; rw [show q = p from h]; exact MoR.rf
  | cons j L ih =>
    intro p q ⟨_, _, p1, h1, h2⟩
    refine MoR.tr ?_ (ih h2)
    rcases h1 with ⟨_, ⟨t, m, r, D, hx, rfl⟩ | ⟨t, D, rfl⟩⟩ | h1
    · exact MoR.l1 D.thi (ow_no (by have := D.kj; omega))
    · exact MoR.l1 D.thi (ow_no (by have := D.kj; omega))
    · exact hS _ _ _ h1
theorem mo_bk {lv' : Int} {a : Int} (hR : ∀ sw k a L p q, Rw sw k a L p q → MoR z p.1 p.2.1 q.1 q.2.1) {p q : Ps} (h : BkD Rw z lv' a p q) : MoR z p.1 p.2.1 q.1 q.2.1 := by
  obtain ⟨L, t, hr, D⟩ := h
  exact (MoR.l1 D.thi (ow_no (by have := D.kj; omega))).tr (hR _ _ _ _ _ _ hr)
theorem mo_st : ∀ n a p q, StD N M z n a p q → MoR z p.1 p.2.1 q.1 q.2.1 := by
  intro n
  induction n with
  | zero => exact fun _ _ _ h => absurd h id
  | succ n ih =>
    intro a p q h
    have hR : ∀ sw k a L p q, RwD (StD N M z n) z (lvN n) sw k a L p q → MoR z p.1 p.2.1 q.1 q.2.1 := fun _ _ _ _ _ _ h => mo_row ih h
    obtain ⟨t, q1, _, _, h, rfl⟩ := h
    show MoR z p.1 p.2.1 q1.1 q1.2.1
    rcases h with ⟨m, r, hx, R, rfl⟩ | ⟨m, hv, rfl⟩ | ⟨R, rfl⟩ | ⟨L, hr, R⟩ | ⟨q2, hs, R, rfl⟩ | ⟨m, r, q2, hx, hs, ⟨R, rfl⟩ | ⟨t2, q3, hs2, R, rfl⟩⟩ | ⟨m, r, q2, hx, hs, R, rfl⟩ | ⟨m, r, q2, hs, hx, R, rfl⟩ | ⟨q2, q3, q4, m2, o, g, x, f1, f2, ⟨L, _, f3⟩, hs, R, rfl⟩ | ⟨m, r, L, q2, hx, hr, _, R, rfl⟩ | ⟨q2, q3, q4, o, g, v, B1, B2, B3, _, R, rfl⟩ | ⟨kd, lk, t2, hk, _, R, rfl⟩ | (⟨R, rfl⟩ | ⟨m, r, hx, ⟨R, rfl⟩ | ⟨R, rfl⟩⟩)
    · exact MoR.l1 R.thi (ow_no (by have := R.kj; omega))
    · exact mo_va hv (Or.inl rfl)
    · exact MoR.l1 R.thi (ow_no (by have := R.kj; omega))
    · exact MoR.ow R.thi (hR _ _ _ _ _ _ hr)
    · exact MoR.ow R.thi (ih _ _ _ hs)
    · exact MoR.ow R.thi (ih _ _ _ hs)
    · have g1 := ih _ _ _ hs
      have g2 := ih _ _ _ hs2
      exact MoR.ow R.thi (g1.tr g2)
    · exact MoR.ow R.thi (ih _ _ _ hs)
    · exact MoR.ow R.thi (ih _ _ _ hs)
    · have g1 := mo_fi f1
      have g2 := mo_fx f3
      have g3 := ih _ _ _ hs
      exact MoR.ow R.thi ((g1.tr g2).tr g3)
    · exact MoR.ow R.thi (hR _ _ _ _ _ _ hr)
    · have g1 := mo_bk hR B1
      have g2 : MoR z q2.1 q2.2.1 q3.1 q3.2.1 := by
        rcases B2 with ⟨_, _, e⟩ | ⟨_, _, t2, B⟩
        · rw [e]; exact MoR.rf
        · have := mo_bk hR B
          exact this
      have g3 : MoR z q3.1 q3.2.1 q4.1 q4.2.1 := by
        rcases B3 with ⟨_, e⟩ | ⟨_, t2, B⟩
        · rw [e]; exact MoR.rf
        · have := mo_bk hR B
          exact this
      exact MoR.ow R.thi ((g1.tr g2).tr g3)
    · exact MoR.l1 R.thi (ow_no (by have := R.kj; omega))
    · exact MoR.l1 R.thi (ow_no (by have := R.kj; omega))
    · exact MoR.l1 R.thi (ow_no (by have := R.kj; omega))
    · exact MoR.l1 R.thi (ow_no (by have := R.kj; omega))
theorem MoR.x1 {a k b m : Nat} (h : thS z a = ((k + 1 : Nat) : Int)) (o : ¬ OwK z a) (g : MoR z (a + 1) (k + 1) b m) : MoR z a k b m := by
  obtain ⟨⟨b1, b2⟩, b3⟩ := g
  refine ⟨⟨by omega, by omega⟩, fun i h1 h2 => ?_⟩
  by_cases e : i = a
  · subst e
    exact ⟨⟨by omega, by omega⟩, fun q => absurd q o⟩
  · obtain ⟨⟨c1, c2⟩, c3⟩ := b3 i (by omega) h2
    exact ⟨⟨by omega, c2⟩, c3⟩
theorem mo_pr : ∀ (L : List Nat) (M : Nat) (p q : Ps), PrD N z L M p q → MoR z p.1 p.2.1 q.1 q.2.1 := by
  intro L
  induction L with
  | nil => intro M p q h; rw [show q = p from h]; exact MoR.rf
  | cons j L ih =>
    intro M p q ⟨_, p1, ⟨q1, t, ⟨L', t2, hr, D⟩, e⟩, h2⟩
    have g := ih _ _ _ h2
    rw [e] at g
    exact (MoR.x1 D.thi (ow_no (by have := D.kj; omega)) (mo_row (mo_st 20) hr)).tr g
/-- the whole program -/
theorem mon_pr {L : List Nat} (h : PrD N z L 0 (0, 0, []) (psM z)) : MonT z ∧ ∀ i, i < snM z → 0 ≤ thS z i ∧ thS z i ≤ (tnM z : Int) := by
  have g := mo_pr _ _ _ _ h
  refine ⟨fun i j hi hj o => ((g.2 i (Nat.zero_le _) (by show i < snM z; omega)).2 o).2 j hi hj, fun i hi => ?_⟩
  have := (g.2 i (Nat.zero_le _) hi).1
  exact ⟨by omega, this.2⟩
end
