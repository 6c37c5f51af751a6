abbrev P_X7_readLiteral : CpC := fun As σ => ∃ (p0 : Nat), As = [.inr (.inr (some p0))] ∧ HIC σ ∧ TyC σ p0 8 ∧ CdC σ p0 ∧ (fIC σ p0 242).toInt ≤ CtC σ p0 ∧ RmC σ p0 (8 * (501 - (fIC σ p0 242).toInt) + (2)) ∧ (fIC σ p0 243).toInt = 0 ∧ ((fIC σ p0 243).toInt = 0 → (fIC σ p0 242).toInt + 1 ≤ CtC σ p0)
abbrev Q_X7_readLiteral : CqC := fun As σ w τ => match As with
  | [.inr (.inr (some p0))] => ∃ r : Nat, w = some (.inr (.inr (some r))) ∧ HIC τ ∧ ExC [0, 1, 2, 60, 61, 62, 63, 64, 65, 66, 67, 68, 70, 242, 243, 244, 999] σ τ ∧ TyC τ r 2 ∧ RdC p0 none (0) (2) (0) σ τ ∧ (cnC σ ≤ r) ∧ (∀ s, ReC σ p0 s → ReC τ p0 (accY s))
  | _ => False
abbrev P_X7_readCountAhead : CpC := fun As σ => ∃ (p0 : Nat), As = [.inr (.inr (some p0))] ∧ HIC σ ∧ TyC σ p0 8 ∧ CdC σ p0 ∧ (fIC σ p0 242).toInt ≤ CtC σ p0 ∧ RmC σ p0 (8 * (501 - (fIC σ p0 242).toInt) + (2)) ∧ (fIC σ p0 243).toInt = 0 ∧ ((fIC σ p0 243).toInt = 0 → (fIC σ p0 242).toInt + 1 ≤ CtC σ p0)
abbrev Q_X7_readCountAhead : CqC := fun As σ w τ => match As with
  | [.inr (.inr (some p0))] => ∃ r : Nat, w = some (.inr (.inr (some r))) ∧ HIC τ ∧ ExC [0, 1, 2, 60, 61, 62, 63, 64, 65, 66, 67, 68, 242, 243, 244, 999] σ τ ∧ TyC τ r 2 ∧ RdC p0 none (0) (2) (0) σ τ ∧ (cnC σ ≤ r) ∧ (∀ s, ReC σ p0 s → ReC τ p0 (cntY s))
  | _ => False
abbrev P_X7_readCall (n : Nat) : CpC := fun As σ => ∃ (p0 : Nat) (p1 : Int32), As = [.inr (.inr (some p0)), .inl p1] ∧ HIC σ ∧ TyC σ p0 8 ∧ 0 ≤ p1.toInt ∧ p1.toInt ≤ 20 ∧ CdC σ p0 ∧ (fIC σ p0 242).toInt ≤ CtC σ p0 ∧ RmC σ p0 (8 * (501 - (fIC σ p0 242).toInt) + (14 + 8 * (n : Int))) ∧ (fIC σ p0 243).toInt = 0 ∧ ((fIC σ p0 243).toInt = 0 → (fIC σ p0 242).toInt + 2 ≤ CtC σ p0) ∧ p1.toInt + (n : Int) = 21
abbrev Q_X7_readCall (n : Nat) : CqC := fun As σ w τ => match As with
  | [.inr (.inr (some p0)), .inl p1] => ∃ r : Nat, w = some (.inr (.inr (some r))) ∧ HIC τ ∧ ExC [0, 1, 2, 60, 61, 62, 63, 64, 65, 66, 67, 68, 69, 70, 72, 73, 74, 75, 76, 242, 243, 244, 999] σ τ ∧ TyC τ r 2 ∧ RdC p0 none (0) (14 + 8 * (n : Int)) (0) σ τ ∧ (cnC σ ≤ r) ∧ (∀ s, ReC σ p0 s → ReC τ p0 (calY (n - 1) (eY (n - 1)) s))
  | _ => False
abbrev P_X7_readAlone (n : Nat) : CpC := fun As σ => ∃ (p0 : Nat) (p1 : Int32), As = [.inr (.inr (some p0)), .inl p1] ∧ HIC σ ∧ TyC σ p0 8 ∧ 0 ≤ p1.toInt ∧ p1.toInt ≤ 20 ∧ CdC σ p0 ∧ (fIC σ p0 242).toInt ≤ CtC σ p0 ∧ RmC σ p0 (8 * (501 - (fIC σ p0 242).toInt) + (14 + 8 * (n : Int))) ∧ (fIC σ p0 243).toInt = 0 ∧ ((fIC σ p0 243).toInt = 0 → (fIC σ p0 242).toInt + 1 ≤ CtC σ p0) ∧ p1.toInt + (n : Int) = 21
abbrev Q_X7_readAlone (n : Nat) : CqC := fun As σ w τ => match As with
  | [.inr (.inr (some p0)), .inl p1] => ∃ r : Nat, w = some (.inr (.inr (some r))) ∧ HIC τ ∧ ExC [0, 1, 2, 60, 61, 62, 63, 64, 65, 66, 67, 68, 69, 70, 72, 73, 74, 75, 76, 242, 243, 244, 999] σ τ ∧ TyC τ r 2 ∧ RdC p0 none (0) (14 + 8 * (n : Int)) (0) σ τ ∧ (cnC σ ≤ r) ∧ (∀ s, ReC σ p0 s → ReC τ p0 (alnY (oY (n - 1)) s))
  | _ => False
abbrev P_X7_readBehindOpen (n : Nat) : CpC := fun As σ => ∃ (p0 : Nat) (p1 : Int32), As = [.inr (.inr (some p0)), .inl p1] ∧ HIC σ ∧ TyC σ p0 8 ∧ 0 ≤ p1.toInt ∧ p1.toInt ≤ 20 ∧ CdC σ p0 ∧ (fIC σ p0 242).toInt ≤ CtC σ p0 ∧ RmC σ p0 (8 * (501 - (fIC σ p0 242).toInt) + (14 + 8 * (n : Int))) ∧ (fIC σ p0 243).toInt = 0 ∧ ((fIC σ p0 243).toInt = 0 → (fIC σ p0 242).toInt + 1 ≤ CtC σ p0) ∧ p1.toInt + (n : Int) = 21
abbrev Q_X7_readBehindOpen (n : Nat) : CqC := fun As σ w τ => match As with
  | [.inr (.inr (some p0)), .inl p1] => ∃ r : Nat, w = some (.inr (.inr (some r))) ∧ HIC τ ∧ ExC [0, 1, 2, 60, 61, 62, 63, 64, 65, 66, 67, 68, 69, 70, 72, 73, 74, 75, 76, 242, 243, 244, 999] σ τ ∧ TyC τ r 2 ∧ RdC p0 none (0) (14 + 8 * (n : Int)) (0) σ τ ∧ (cnC σ ≤ r) ∧ (∀ s, ReC σ p0 s → ReC τ p0 (opnY (oY (n - 1)) (eY (n - 1)) s))
  | _ => False
abbrev P_X7_readName (n : Nat) : CpC := fun As σ => ∃ (p0 : Nat) (p1 : Int32), As = [.inr (.inr (some p0)), .inl p1] ∧ HIC σ ∧ TyC σ p0 8 ∧ 0 ≤ p1.toInt ∧ p1.toInt ≤ 20 ∧ CdC σ p0 ∧ (fIC σ p0 242).toInt ≤ CtC σ p0 ∧ RmC σ p0 (8 * (501 - (fIC σ p0 242).toInt) + (14 + 8 * (n : Int))) ∧ (fIC σ p0 243).toInt = 0 ∧ ((fIC σ p0 243).toInt = 0 → (fIC σ p0 242).toInt + 1 ≤ CtC σ p0) ∧ p1.toInt + (n : Int) = 21
abbrev Q_X7_readName (n : Nat) : CqC := fun As σ w τ => match As with
  | [.inr (.inr (some p0)), .inl p1] => ∃ r : Nat, w = some (.inr (.inr (some r))) ∧ HIC τ ∧ ExC [0, 1, 2, 60, 61, 62, 63, 64, 65, 66, 67, 68, 69, 70, 72, 73, 74, 75, 76, 242, 243, 244, 999] σ τ ∧ TyC τ r 2 ∧ RdC p0 none (0) (14 + 8 * (n : Int)) (0) σ τ ∧ (cnC σ ≤ r) ∧ (∀ s, ReC σ p0 s → ReC τ p0 (nmeY (n - 1) (eY (n - 1)) s))
  | _ => False
abbrev P_X7_readOperand (n : Nat) : CpC := fun As σ => ∃ (p0 : Nat) (p1 : Int32), As = [.inr (.inr (some p0)), .inl p1] ∧ HIC σ ∧ TyC σ p0 8 ∧ 0 ≤ p1.toInt ∧ p1.toInt ≤ 20 ∧ CdC σ p0 ∧ (fIC σ p0 242).toInt ≤ CtC σ p0 ∧ BgC σ p0 (14 + 8 * (n : Int)) (1) ∧ p1.toInt + (n : Int) = 21
abbrev Q_X7_readOperand (n : Nat) : CqC := fun As σ w τ => match As with
  | [.inr (.inr (some p0)), .inl p1] => ∃ r : Nat, w = some (.inr (.inr (some r))) ∧ HIC τ ∧ ExC [0, 1, 2, 60, 61, 62, 63, 64, 65, 66, 67, 68, 69, 70, 72, 73, 74, 75, 76, 242, 243, 244, 999] σ τ ∧ TyC τ r 2 ∧ RdC p0 none (0) (14 + 8 * (n : Int)) (1) σ τ ∧ (cnC σ ≤ r) ∧ (∀ s, ReC σ p0 s → ReC τ p0 (opY n s))
  | _ => False
abbrev P_X7_readInnerOperand (n : Nat) : CpC := fun As σ => ∃ (p0 : Nat) (p1 : Int32), As = [.inr (.inr (some p0)), .inl p1] ∧ HIC σ ∧ TyC σ p0 8 ∧ 0 ≤ p1.toInt ∧ p1.toInt ≤ 21 ∧ CdC σ p0 ∧ (fIC σ p0 242).toInt ≤ CtC σ p0 ∧ BgC σ p0 (14 + 8 * (n : Int)) (1) ∧ p1.toInt + (n : Int) = 21
abbrev Q_X7_readInnerOperand (n : Nat) : CqC := fun As σ w τ => match As with
  | [.inr (.inr (some p0)), .inl p1] => ∃ r : Nat, w = some (.inr (.inr (some r))) ∧ HIC τ ∧ ExC [0, 1, 2, 60, 61, 62, 63, 64, 65, 66, 67, 68, 69, 70, 72, 73, 74, 75, 76, 242, 243, 244, 999] σ τ ∧ TyC τ r 2 ∧ RdC p0 none (0) (14 + 8 * (n : Int)) (1) σ τ ∧ (cnC σ ≤ r) ∧ (∀ s, ReC σ p0 s → ReC τ p0 (oY n s))
  | _ => False
abbrev P_X7_waitingFor : CpC := fun As σ => ∃ (p0 : Nat) (p1 : Int32) (p2 : Nat) (p3 : Option Nat), As = [.inr (.inr (some p0)), .inl p1, .inr (.inr (some p2)), .inr (.inr p3)] ∧ HIC σ ∧ TyC σ p0 8 ∧ TyC σ p2 2 ∧ (∀ c, p3 = some c → c < cnC σ ∧ tgC σ c = 2) ∧ CdC σ p0 ∧ (fIC σ p0 242).toInt ≤ CtC σ p0 ∧ BgC σ p0 (3) (3)
abbrev Q_X7_waitingFor : CqC := fun As σ w τ => match As with
  | [.inr (.inr (some p0)), .inl p1, .inr (.inr (some p2)), .inr (.inr p3)] => ∃ r : Nat, w = some (.inr (.inr (some r))) ∧ HIC τ ∧ ExC [0, 1, 2, 60, 61, 62, 63, 64, 65, 66, 67, 68, 72, 75, 76, 999] σ τ ∧ r < cnC τ ∧ tgC τ r = 2 ∧ RdC p0 none (3) (3) (3) σ τ ∧ (WtC τ r) ∧ (fRC τ r 75 = p3) ∧ (cnC σ ≤ r) ∧ (∀ s, ReC σ p0 s → ReC τ p0 ( s))
  | _ => False
abbrev P_X7_closed : CpC := fun As σ => ∃ (p0 : Nat) (p1 : Nat) (p2 : Nat), As = [.inr (.inr (some p0)), .inr (.inr (some p1)), .inr (.inr (some p2))] ∧ HIC σ ∧ TyC σ p0 8 ∧ p1 < cnC σ ∧ tgC σ p1 = 2 ∧ TyC σ p2 2 ∧ CdC σ p0 ∧ (fIC σ p0 242).toInt ≤ CtC σ p0 ∧ BgC σ p0 (1) (1)
abbrev Q_X7_closed : CqC := fun As σ w τ => match As with
  | [.inr (.inr (some p0)), .inr (.inr (some p1)), .inr (.inr (some p2))] => ∃ r : Nat, w = some (.inr (.inr (some r))) ∧ HIC τ ∧ ExC [0, 1, 2, 64, 65, 73, 75, 999] σ τ ∧ TyC τ r 2 ∧ RdC p0 (some p1) (1) (1) (1) σ τ ∧ (r = p1) ∧ (∀ s, ReC σ p0 s → ReC τ p0 ( s))
  | _ => False
abbrev P_X7_readChain (n : Nat) : CpC := fun As σ => ∃ (p0 : Nat) (p1 : Int32), As = [.inr (.inr (some p0)), .inl p1] ∧ HIC σ ∧ TyC σ p0 8 ∧ 0 ≤ p1.toInt ∧ p1.toInt ≤ 20 ∧ CdC σ p0 ∧ (fIC σ p0 242).toInt ≤ CtC σ p0 ∧ BgC σ p0 (19 + 8 * (n : Int)) (1) ∧ p1.toInt + (n : Int) = 21
abbrev Q_X7_readChain (n : Nat) : CqC := fun As σ w τ => match As with
  | [.inr (.inr (some p0)), .inl p1] => ∃ r : Nat, w = some (.inr (.inr (some r))) ∧ HIC τ ∧ ExC [0, 1, 2, 60, 61, 62, 63, 64, 65, 66, 67, 68, 69, 70, 72, 73, 74, 75, 76, 242, 243, 244, 999] σ τ ∧ TyC τ r 2 ∧ RdC p0 none (0) (19 + 8 * (n : Int)) (1) σ τ ∧ (cnC σ ≤ r) ∧ (∀ s, ReC σ p0 s → ReC τ p0 (chnY (opY n) s))
  | _ => False
abbrev P_X7_readChoice (n : Nat) : CpC := fun As σ => ∃ (p0 : Nat) (p1 : Int32), As = [.inr (.inr (some p0)), .inl p1] ∧ HIC σ ∧ TyC σ p0 8 ∧ 0 ≤ p1.toInt ∧ p1.toInt ≤ 20 ∧ CdC σ p0 ∧ (fIC σ p0 242).toInt ≤ CtC σ p0 ∧ BgC σ p0 (19 + 8 * (n : Int)) (1) ∧ p1.toInt + (n : Int) = 21
abbrev Q_X7_readChoice (n : Nat) : CqC := fun As σ w τ => match As with
  | [.inr (.inr (some p0)), .inl p1] => ∃ r : Nat, w = some (.inr (.inr (some r))) ∧ HIC τ ∧ ExC [0, 1, 2, 60, 61, 62, 63, 64, 65, 66, 67, 68, 69, 70, 72, 73, 74, 75, 76, 242, 243, 244, 999] σ τ ∧ TyC τ r 2 ∧ RdC p0 none (0) (19 + 8 * (n : Int)) (1) σ τ ∧ (cnC σ ≤ r) ∧ (∀ s, ReC σ p0 s → ReC τ p0 (chY n s))
  | _ => False
abbrev P_X7_readAssignment (n : Nat) : CpC := fun As σ => ∃ (p0 : Nat) (p1 : Int32), As = [.inr (.inr (some p0)), .inl p1] ∧ HIC σ ∧ TyC σ p0 8 ∧ 0 ≤ p1.toInt ∧ p1.toInt ≤ 20 ∧ CdC σ p0 ∧ (fIC σ p0 242).toInt ≤ CtC σ p0 ∧ RmC σ p0 (8 * (501 - (fIC σ p0 242).toInt) + (19 + 8 * (n : Int))) ∧ (fIC σ p0 243).toInt = 0 ∧ ((fIC σ p0 243).toInt = 0 → (fIC σ p0 242).toInt + 2 ≤ CtC σ p0) ∧ p1.toInt + (n : Int) = 21
abbrev Q_X7_readAssignment (n : Nat) : CqC := fun As σ w τ => match As with
  | [.inr (.inr (some p0)), .inl p1] => ∃ r : Nat, w = some (.inr (.inr (some r))) ∧ HIC τ ∧ ExC [0, 1, 2, 60, 61, 62, 63, 64, 65, 66, 67, 68, 69, 70, 72, 73, 74, 75, 76, 242, 243, 244, 999] σ τ ∧ TyC τ r 2 ∧ RdC p0 none (0) (19 + 8 * (n : Int)) (0) σ τ ∧ (cnC σ ≤ r) ∧ (∀ s, ReC σ p0 s → ReC τ p0 (asgY (eY (n - 1)) s))
  | _ => False
abbrev P_X7_readExp (n : Nat) : CpC := fun As σ => ∃ (p0 : Nat) (p1 : Int32), As = [.inr (.inr (some p0)), .inl p1] ∧ HIC σ ∧ TyC σ p0 8 ∧ 0 ≤ p1.toInt ∧ p1.toInt ≤ 21 ∧ CdC σ p0 ∧ (fIC σ p0 242).toInt ≤ CtC σ p0 ∧ BgC σ p0 (20 + 8 * (n : Int)) (1) ∧ p1.toInt + (n : Int) = 21
abbrev Q_X7_readExp (n : Nat) : CqC := fun As σ w τ => match As with
  | [.inr (.inr (some p0)), .inl p1] => ∃ r : Nat, w = some (.inr (.inr (some r))) ∧ HIC τ ∧ ExC [0, 1, 2, 60, 61, 62, 63, 64, 65, 66, 67, 68, 69, 70, 72, 73, 74, 75, 76, 242, 243, 244, 999] σ τ ∧ TyC τ r 2 ∧ RdC p0 none (0) (20 + 8 * (n : Int)) (1) σ τ ∧ (cnC σ ≤ r) ∧ (∀ s, ReC σ p0 s → ReC τ p0 (eY n s))
  | _ => False
