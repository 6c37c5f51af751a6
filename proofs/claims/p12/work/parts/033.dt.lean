abbrev P_Jx4a65c_add_9ea2d : CpC := fun As σ => ∃ (p0 : Nat) (p1 : Nat), As = [.inr (.inr (some p0)), .inr (.inr (some p1))] ∧ HIC σ ∧ TyC σ p0 0 ∧ ElC σ (ghC σ p0) p1 ∧ (fIC σ p0 2).toInt < 4300 ∧ cnC σ + 1 ≤ cpC σ ∧ slC σ + 10000 ≤ spC σ ∧ (ghC σ p0 = 6 → (fIC σ p0 2).toInt < 100)
abbrev Q_Jx4a65c_add_9ea2d : CqC := fun As σ w τ => match As with
  | [.inr (.inr (some p0)), .inr (.inr (some p1))] => ∃ r : Int32, w = some (.inl r) ∧ HIC τ ∧ ExC [0, 1, 2, 999] σ τ ∧ 0 ≤ r.toInt ∧ r.toInt ≤ 1 ∧ GwC none σ τ ∧ (cnC τ ≤ cnC σ + 1) ∧ ((∀ b, b < cnC σ → tgC σ b = 0 → (fIC τ b 2).toInt ≤ (fIC σ b 2).toInt + 1)) ∧ ((fIC τ p0 2).toInt = (fIC σ p0 2).toInt + 1) ∧ ((∀ b, b ≠ p0 → fIC τ b 2 = fIC σ b 2)) ∧ (AeC p0 p1 σ τ)
  | _ => False
abbrev P_add6 : CpC := fun As σ => ∃ (p0 : Nat) (p1 : Nat), As = [.inr (.inr (some p0)), .inr (.inr (some p1))] ∧ (HI0 σ ∧ LbC σ (some p1)) ∧ TyC σ p0 0 ∧ ElC σ (ghC σ p0) p1 ∧ (fIC σ p0 2).toInt < 4300 ∧ cnC σ + 1 ≤ cpC σ ∧ slC σ + 10000 ≤ spC σ ∧ (ghC σ p0 = 6 → (fIC σ p0 2).toInt < 100)
abbrev Q_add6 : CqC := fun As σ w τ => match As with
  | [.inr (.inr (some p0)), .inr (.inr (some p1))] => ∃ r : Int32, w = some (.inl r) ∧ (HI0 τ ∧ LbC τ (some p1)) ∧ ExC [0, 1, 2, 999] σ τ ∧ 0 ≤ r.toInt ∧ r.toInt ≤ 1 ∧ GwC none σ τ ∧ (cnC τ ≤ cnC σ + 1) ∧ ((∀ b, b < cnC σ → tgC σ b = 0 → (fIC τ b 2).toInt ≤ (fIC σ b 2).toInt + 1)) ∧ ((fIC τ p0 2).toInt = (fIC σ p0 2).toInt + 1) ∧ ((∀ b, b ≠ p0 → fIC τ b 2 = fIC σ b 2)) ∧ (AeC p0 p1 σ τ)
  | _ => False
abbrev P_Jx4a65c_init_da8c8 : CpC := fun As σ => ∃ (p0 : Nat), As = [.inr (.inr (some p0))] ∧ HIC σ ∧ RawC σ p0 0 ∧ ZrC σ p0 ∧ cnC σ + 0 ≤ cpC σ ∧ slC σ + 0 ≤ spC σ
abbrev Q_Jx4a65c_init_da8c8 : CqC := fun As σ w τ => match As with
  | [.inr (.inr (some p0))] => w = none ∧ HIC τ ∧ ExT p0 [] σ τ ∧ TyC τ p0 0 ∧ ghC τ p0 = ghC σ p0 ∧ cnC τ = cnC σ + 0 ∧ slC τ = slC σ + 0
  | _ => False
