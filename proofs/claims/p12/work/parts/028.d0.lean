theorem cc0C {l : Launch} {lev : Nat} : ∀ q ∈ ([] : CcC), ∃ lv, lv < lev ∧ CMetC l lv q.1 q.2.1 q.2.2 := fun _ h => absurd h List.not_mem_nil
theorem cc1C {l : Launch} {lev lv μ : Nat} {P : CpC} {Q : CqC} {r : CcC} (h : CMetC l lv μ P Q) (hl : lv < lev) (hr : ∀ q ∈ r, ∃ lv, lv < lev ∧ CMetC l lv q.1 q.2.1 q.2.2) : ∀ q ∈ (μ, P, Q) :: r, ∃ lv, lv < lev ∧ CMetC l lv q.1 q.2.1 q.2.2 := fun q hq => (List.mem_cons.mp hq).elim (fun e => by subst e; exact ⟨lv, hl, h⟩) (hr q)
theorem kgoC {bs : RB} {ct : CcC} {K : CkC} {Z : Option AvC → CsC → Prop} {pc : Nat} {is : List RI} {ls : ClC} {st : List AvC} {σ : CsC} (h : rfd bs pc = some is) (w : cwpC ct K Z is pc ls st σ) : cgoC bs ct K Z pc ls st σ := by
  unfold cgoC
  rw [h]
  exact w
def msNC (c : Nat) (o : Option Nat) : Nat := match o with
  | none => 0
  | some b => c - b
def msPC (o : Option Nat) : Nat := match o with
  | none => 0
  | some b => b + 1

theorem keep0 {σ τ : CsC} {a b : Nat} (h : (fIC σ a 2).toInt = 0) (p : (fIC τ b 2).toInt = 0) (q : ∀ a, a ≠ b → fIC τ a 2 = fIC σ a 2) : (fIC τ a 2).toInt = 0 := by
  by_cases z : a = b
  · rw [z]; exact p
  · rw [q a z]; exact h
def slnC (c : Nat) : Int := match c with
  | 1000003 => 135
  | 1000004 => 3
  | 1000005 => 2
  | 1000006 => 112
  | _ => 0
abbrev P_Jx4a65c_size_8abf5 : CpC := fun As σ => ∃ (p0 : Nat), As = [.inr (.inr (some p0))] ∧ HIC σ ∧ TyC σ p0 0
abbrev Q_Jx4a65c_size_8abf5 : CqC := fun As σ w τ => match As with
  | [.inr (.inr (some p0))] => ∃ r : Int32, w = some (.inl r) ∧ σ = τ ∧ 0 ≤ r.toInt ∧ r.toInt ≤ 20000 ∧ (fIC σ p0 2 = r) ∧ (ghC σ p0 = 6 → r.toInt ≤ 100)
  | _ => False
abbrev P_Jx4a65c_get_915e3 : CpC := fun As σ => ∃ (p0 : Nat) (p1 : Int32), As = [.inr (.inr (some p0)), .inl p1] ∧ HIC σ ∧ TyC σ p0 0 ∧ 0 ≤ p1.toInt ∧ p1.toInt < (fIC σ p0 2).toInt
abbrev Q_Jx4a65c_get_915e3 : CqC := fun As σ w τ => match As with
  | [.inr (.inr (some p0)), .inl p1] => ∃ r : Nat, w = some (.inr (.inr (some r))) ∧ σ = τ ∧ ElC τ (ghC τ p0) r
  | _ => False
abbrev P_Jx4a65c_clear_da8c8 : CpC := fun As σ => ∃ (p0 : Nat), As = [.inr (.inr (some p0))] ∧ HIC σ ∧ TyC σ p0 0
abbrev Q_Jx4a65c_clear_da8c8 : CqC := fun As σ w τ => match As with
  | [.inr (.inr (some p0))] => w = none ∧ HIC τ ∧ ExC [0, 2] σ τ ∧ ((fIC τ p0 2).toInt = 0) ∧ ((∀ a, a ≠ p0 → fIC τ a 2 = fIC σ a 2)) ∧ ((∀ b, b < cnC σ → tgC σ b = 0 → b ≠ p0 → ∀ j : Nat, (j : Int) < (fIC σ b 2).toInt → elC τ b j = elC σ b j))
  | _ => False
abbrev P_J0_length_8abf5 : CpC := fun As σ => ∃ (p0 : Nat), As = [.inr (.inr (some p0))] ∧ HIC σ ∧ (p0 = 1000003 ∨ p0 = 1000004 ∨ p0 = 1000005 ∨ p0 = 1000006)
abbrev Q_J0_length_8abf5 : CqC := fun As σ w τ => match As with
  | [.inr (.inr (some p0))] => ∃ r : Int32, w = some (.inl r) ∧ σ = τ ∧ 0 ≤ r.toInt ∧ r.toInt ≤ 1000 ∧ (r.toInt = slnC p0)
  | _ => False
abbrev P_J0_charAt_5068e : CpC := fun As σ => ∃ (p0 : Nat) (p1 : Int32), As = [.inr (.inr (some p0)), .inl p1] ∧ HIC σ ∧ (p0 = 1000003 ∨ p0 = 1000004 ∨ p0 = 1000005 ∨ p0 = 1000006) ∧ 0 ≤ p1.toInt ∧ p1.toInt < slnC p0
abbrev Q_J0_charAt_5068e : CqC := fun As σ w τ => match As with
  | [.inr (.inr (some p0)), .inl p1] => ∃ r : Int32, w = some (.inl r) ∧ σ = τ ∧ (r = chrV (p0 - 1000003) p1)
  | _ => False
abbrev P_X11_strength : CpC := fun As σ => ∃ (p0 : Int32), As = [.inl p0] ∧ HIC σ
abbrev Q_X11_strength : CqC := fun As σ w τ => match As with
  | [.inl p0] => ∃ r : Int32, w = some (.inl r) ∧ σ = τ ∧ (0 < r.toInt → 20 ≤ p0.toInt ∧ p0.toInt ≤ 38) ∧ ((20 ≤ p0.toInt → p0.toInt ≤ 38 → 0 < r.toInt))
  | _ => False
abbrev P_X11_operatorOf : CpC := fun As σ => ∃ (p0 : Int32), As = [.inl p0] ∧ HIC σ
abbrev Q_X11_operatorOf : CqC := fun As σ w τ => match As with
  | [.inl p0] => ∃ r : Int32, w = some (.inl r) ∧ σ = τ
  | _ => False
