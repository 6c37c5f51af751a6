/-! exps -/
theorem opA_p {A : Nat → Nat} {n : Nat} (h : 0 < n) : opA A ((n : Int) - 1) = some (A (n - 1)) := by
  rw [opA_s (by omega)]
  exact congrArg (fun j => some (A j)) (by omega)
/-- the exp that was read -/
def TpX (τ : CsC) (o : Nat) (z : ZS) : Prop := (fIC τ o 62).toInt = zAt z.1 ∧ (fIC τ o 63).toInt = (xnM z : Int) ∧ fRC τ o 75 = none
abbrev ExQ (N : Int → Int) (E A B V : Nat → Nat) (z z' : ZS) (σ : CsC) (w : Option AvC) (τ : CsC) : Prop := ∃ A' : Nat → Nat, w = some (.inr (.inr (some (A' (xnM z' - 1))))) ∧ ZC N E A' B V τ z' ∧ FzC (cnC σ) (xnM z) E A A' B B V V z z' σ τ ∧ TpX τ (A' (xnM z' - 1)) z ∧ xnM z < xnM z'
/-- the latest item's kind -/
def hdK (z : ZS) : Int := match z.2.1 with
  | .inl x :: _ => x.1.1
  | _ => -1
/-- the latest one stands right behind a unary - -/
def lk1 (z : ZS) : ZS := match z.2.1 with
  | .inl x :: l => (z.1, .inl (x.1, (x.2.1.1, 1, x.2.1.2.2), x.2.2) :: l, z.2.2)
  | _ => z
theorem clp_k {E : ZS → ZS} {r : Int × Int} : ∀ (f : Nat) (l : List Int) (z : ZS), hdK (clpM E r f l z) = 10 := by
  intro f
  induction f with
  | zero => intro l z; rfl
  | succ f ih =>
    intro l z
    rw [clpM]
    split
    · exact ih _ _
    · rfl
theorem ol_1 {N : Int → Int} {m : Nat} {z : ZS} (h : zFt (oM N m 0 z).1 = 0) : oM N m 1 z = if hdK (oM N m 0 z) = 0 then lk1 (oM N m 0 z) else oM N m 0 z := by
  cases m with
  | zero => exact absurd h (raiY_z (by decide))
  | succ m =>
    show oprM N m (eM N m) (oM N m) 1 z = if hdK (oprM N m (eM N m) (oM N m) 0 z) = 0 then lk1 (oprM N m (eM N m) (oM N m) 0 z) else oprM N m (eM N m) (oM N m) 0 z
    have h : zFt (oprM N m (eM N m) (oM N m) 0 z).1 = 0 := h
    unfold oprM at h ⊢
    by_cases c1 : codY z.1 = 34 ∨ codY z.1 = 35 ∨ codY z.1 = 39 ∨ codY z.1 = 40
    · rw [if_pos c1, if_pos c1]; exact (if_neg (show ¬ (4 : Int) = 0 by decide)).symm
    rw [if_neg c1] at h
    rw [if_neg c1, if_neg c1]
    by_cases c2 : codY z.1 = 41 ∨ codY z.1 = 42
    · rw [if_pos c2, if_pos c2]; exact (if_neg (show ¬ (6 : Int) = 0 by decide)).symm
    rw [if_neg c2] at h
    rw [if_neg c2, if_neg c2]
    by_cases c3 : codY z.1 = 0
    · rw [if_pos c3, if_pos c3]
      unfold op2M
      by_cases c : 50 ≤ codY (accM z).1 ∧ codY (accM z).1 ≤ 54
      · rw [if_pos c]; exact (if_neg (show ¬ (5 : Int) = 0 by decide)).symm
      · rw [if_neg c]; exact (if_neg (show ¬ (3 : Int) = 0 by decide)).symm
    rw [if_neg c3] at h
    rw [if_neg c3, if_neg c3]
    by_cases c4 : codY z.1 = 80
    · rw [if_pos c4] at h
      rw [if_pos c4, if_pos c4]
      have hk : ¬ hdK (nmeM N m (eM N m) z) = 0 := by
        unfold nmeM at h ⊢
        by_cases d1 : cobY z.1 = 0
        · rw [if_pos d1] at h ⊢
          unfold ca2M at h ⊢
          by_cases d2 : m = 0
          · rw [if_pos d2] at h
            exact absurd ((gd_xp (c := 1) _).z h) (raiY_z (by decide))
          · rw [if_neg d2] at h ⊢
            by_cases d3 : codY (accM (accM z)).1 = 1
            · rw [if_pos d3]
              exact (show ¬ (10 : Int) = 0 by decide)
            · rw [if_neg d3]
              rw [clp_k]
              decide
        · rw [if_neg d1]
          by_cases d2 : cobY z.1 = 41 ∨ cobY z.1 = 42
          · rw [if_pos d2]
            exact (show ¬ (6 : Int) = 0 by decide)
          · rw [if_neg d2]
            exact (show ¬ (2 : Int) = 0 by decide)
      rw [if_neg hk]
    rw [if_neg c4] at h
    rw [if_neg c4, if_neg c4]
    by_cases c5 : codY z.1 = 81 ∨ codY z.1 = 82 ∨ codY z.1 = 83 ∨ codY z.1 = 72 ∨ codY z.1 = 73
    · rw [if_pos c5, if_pos c5]
      by_cases d : codY z.1 = 81 ∨ codY z.1 = 82
      · have e : hdK (puM (litZ 0 (xnM z) z.1) (accM z)) = 0 := by
          show (if codY z.1 = 81 ∨ codY z.1 = 82 then (0 : Int) else 1) = 0
          rw [if_pos d]
        rw [if_pos e]
        show puM (litZ 1 (xnM z) z.1) (accM z) = ((accM z).1, Sum.inl _ :: (accM z).2.1, (accM z).2.2)
        unfold litZ
        rw [if_pos (show (codY z.1 = 81 ∨ codY z.1 = 82) ∧ (1 : Int) = 1 from ⟨d, rfl⟩)]
        rfl
      · have e : ¬ hdK (puM (litZ 0 (xnM z) z.1) (accM z)) = 0 := by
          show ¬ (if codY z.1 = 81 ∨ codY z.1 = 82 then (0 : Int) else 1) = 0
          rw [if_neg d]
          decide
        rw [if_neg e]
        unfold litZ
        rw [if_neg (show ¬ ((codY z.1 = 81 ∨ codY z.1 = 82) ∧ (1 : Int) = 1) from fun q => d q.1), if_neg (show ¬ ((codY z.1 = 81 ∨ codY z.1 = 82) ∧ (0 : Int) = 1) from fun q => d q.1)]
    · rw [if_neg c5] at h
      exact absurd h (raiY_z (by decide))
abbrev Pz_readLiteral : ((Int → Int) × (Nat → Nat) × (Nat → Nat) × (Nat → Nat) × (Nat → Nat) × ZS) → CpC := fun y As σ => match y with
  | (N, E, A, B, V, z) => As = [.inr (.inr (some (E 0)))] ∧ (ZC N E A B V σ z) ∧ (codY z.1 = 81 ∨ codY z.1 = 82 ∨ codY z.1 = 83 ∨ codY z.1 = 72 ∨ codY z.1 = 73) ∧ (zFt (puM (litZ 0 (xnM z) z.1) (accM z)).1 = 0)
abbrev Qz_readLiteral : ((Int → Int) × (Nat → Nat) × (Nat → Nat) × (Nat → Nat) × (Nat → Nat) × ZS) → CqC := fun y As σ w τ => match y, As with
  | (N, E, A, B, V, z), [_] => ExQ N E A B V z (puM (litZ 0 (xnM z) z.1) (accM z)) σ w τ
  | _, _ => True
abbrev Uz_readLiteral : CqC := fun As σ w τ => ∀ y, Pz_readLiteral y As σ → Qz_readLiteral y As σ w τ
abbrev Pz_readCountAhead : ((Int → Int) × (Nat → Nat) × (Nat → Nat) × (Nat → Nat) × (Nat → Nat) × ZS) → CpC := fun y As σ => match y with
  | (N, E, A, B, V, z) => As = [.inr (.inr (some (E 0)))] ∧ (ZC N E A B V σ z) ∧ (codY z.1 = 41 ∨ codY z.1 = 42) ∧ (zFt (xpM 80 (puM (preZ (lkM N z (zAt z.1 + 1)) (xnM z) z.1) (accM z))).1 = 0)
abbrev Qz_readCountAhead : ((Int → Int) × (Nat → Nat) × (Nat → Nat) × (Nat → Nat) × (Nat → Nat) × ZS) → CqC := fun y As σ w τ => match y, As with
  | (N, E, A, B, V, z), [_] => ExQ N E A B V z (xpM 80 (puM (preZ (lkM N z (zAt z.1 + 1)) (xnM z) z.1) (accM z))) σ w τ
  | _, _ => True
abbrev Uz_readCountAhead : CqC := fun As σ w τ => ∀ y, Pz_readCountAhead y As σ → Qz_readCountAhead y As σ w τ
abbrev Pz_readExp : ((Int → Int) × (Nat → Nat) × (Nat → Nat) × (Nat → Nat) × (Nat → Nat) × ZS × Nat) → CpC := fun y As σ => match y with
  | (N, E, A, B, V, z, n) => ∃ (p1 : Int32), As = [.inr (.inr (some (E 0))), .inl p1] ∧ (ZC N E A B V σ z) ∧ (p1.toInt + (n : Int) = 21) ∧ (zFt (eM N n z).1 = 0)
abbrev Qz_readExp : ((Int → Int) × (Nat → Nat) × (Nat → Nat) × (Nat → Nat) × (Nat → Nat) × ZS × Nat) → CqC := fun y As σ w τ => match y, As with
  | (N, E, A, B, V, z, n), [_, .inl p1] => ExQ N E A B V z (eM N n z) σ w τ
  | _, _ => True
abbrev Uz_readExp : CqC := fun As σ w τ => ∀ y, Pz_readExp y As σ → Qz_readExp y As σ w τ
abbrev Pz_readChoice : ((Int → Int) × (Nat → Nat) × (Nat → Nat) × (Nat → Nat) × (Nat → Nat) × ZS × Nat) → CpC := fun y As σ => match y with
  | (N, E, A, B, V, z, n) => ∃ (p1 : Int32), As = [.inr (.inr (some (E 0))), .inl p1] ∧ (ZC N E A B V σ z) ∧ (p1.toInt + (n : Int) = 21) ∧ (1 ≤ n) ∧ (zFt (chM N n z).1 = 0)
abbrev Qz_readChoice : ((Int → Int) × (Nat → Nat) × (Nat → Nat) × (Nat → Nat) × (Nat → Nat) × ZS × Nat) → CqC := fun y As σ w τ => match y, As with
  | (N, E, A, B, V, z, n), [_, .inl p1] => ExQ N E A B V z (chM N n z) σ w τ
  | _, _ => True
abbrev Uz_readChoice : CqC := fun As σ w τ => ∀ y, Pz_readChoice y As σ → Qz_readChoice y As σ w τ
abbrev Pz_readAssignment : ((Int → Int) × (Nat → Nat) × (Nat → Nat) × (Nat → Nat) × (Nat → Nat) × ZS × Nat) → CpC := fun y As σ => match y with
  | (N, E, A, B, V, z, n) => ∃ (p1 : Int32), As = [.inr (.inr (some (E 0))), .inl p1] ∧ (ZC N E A B V σ z) ∧ (p1.toInt + (n : Int) = 21) ∧ (1 ≤ n) ∧ (codY z.1 = 80 ∧ 8 ≤ cobY z.1 ∧ cobY z.1 ≤ 19) ∧ (zFt (asgM N (eM N (n - 1)) z).1 = 0)
abbrev Qz_readAssignment : ((Int → Int) × (Nat → Nat) × (Nat → Nat) × (Nat → Nat) × (Nat → Nat) × ZS × Nat) → CqC := fun y As σ w τ => match y, As with
  | (N, E, A, B, V, z, n), [_, .inl p1] => ExQ N E A B V z (asgM N (eM N (n - 1)) z) σ w τ
  | _, _ => True
abbrev Uz_readAssignment : CqC := fun As σ w τ => ∀ y, Pz_readAssignment y As σ → Qz_readAssignment y As σ w τ
abbrev Pz_readChain : ((Int → Int) × (Nat → Nat) × (Nat → Nat) × (Nat → Nat) × (Nat → Nat) × ZS × Nat) → CpC := fun y As σ => match y with
  | (N, E, A, B, V, z, n) => ∃ (p1 : Int32), As = [.inr (.inr (some (E 0))), .inl p1] ∧ (ZC N E A B V σ z) ∧ (p1.toInt + (n : Int) = 21) ∧ (1 ≤ n) ∧ (zFt (chlM (opM N n 0) 501 [] (rbM z) (opM N n 0 z)).1 = 0)
abbrev Qz_readChain : ((Int → Int) × (Nat → Nat) × (Nat → Nat) × (Nat → Nat) × (Nat → Nat) × ZS × Nat) → CqC := fun y As σ w τ => match y, As with
  | (N, E, A, B, V, z, n), [_, .inl p1] => ExQ N E A B V z (chlM (opM N n 0) 501 [] (rbM z) (opM N n 0 z)) σ w τ
  | _, _ => True
abbrev Uz_readChain : CqC := fun As σ w τ => ∀ y, Pz_readChain y As σ → Qz_readChain y As σ w τ
abbrev Pz_readOperand : ((Int → Int) × (Nat → Nat) × (Nat → Nat) × (Nat → Nat) × (Nat → Nat) × ZS × Nat) → CpC := fun y As σ => match y with
  | (N, E, A, B, V, z, n) => ∃ (p1 : Int32), As = [.inr (.inr (some (E 0))), .inl p1] ∧ (ZC N E A B V σ z) ∧ (p1.toInt + (n : Int) = 21) ∧ (1 ≤ n) ∧ (zFt (opM N n 0 z).1 = 0)
abbrev Qz_readOperand : ((Int → Int) × (Nat → Nat) × (Nat → Nat) × (Nat → Nat) × (Nat → Nat) × ZS × Nat) → CqC := fun y As σ w τ => match y, As with
  | (N, E, A, B, V, z, n), [_, .inl p1] => ExQ N E A B V z (opM N n 0 z) σ w τ
  | _, _ => True
abbrev Uz_readOperand : CqC := fun As σ w τ => ∀ y, Pz_readOperand y As σ → Qz_readOperand y As σ w τ
abbrev Pz_readInnerOperand : ((Int → Int) × (Nat → Nat) × (Nat → Nat) × (Nat → Nat) × (Nat → Nat) × ZS × Nat) → CpC := fun y As σ => match y with
  | (N, E, A, B, V, z, n) => ∃ (p1 : Int32), As = [.inr (.inr (some (E 0))), .inl p1] ∧ (ZC N E A B V σ z) ∧ (p1.toInt + (n : Int) = 21) ∧ (zFt (oM N n 0 z).1 = 0)
abbrev Qz_readInnerOperand : ((Int → Int) × (Nat → Nat) × (Nat → Nat) × (Nat → Nat) × (Nat → Nat) × ZS × Nat) → CqC := fun y As σ w τ => match y, As with
  | (N, E, A, B, V, z, n), [_, .inl p1] => ExQ N E A B V z (oM N n 0 z) σ w τ
  | _, _ => True
abbrev Uz_readInnerOperand : CqC := fun As σ w τ => ∀ y, Pz_readInnerOperand y As σ → Qz_readInnerOperand y As σ w τ
abbrev Pz_readAlone : ((Int → Int) × (Nat → Nat) × (Nat → Nat) × (Nat → Nat) × (Nat → Nat) × ZS × Nat) → CpC := fun y As σ => match y with
  | (N, E, A, B, V, z, n) => ∃ (p1 : Int32), As = [.inr (.inr (some (E 0))), .inl p1] ∧ (ZC N E A B V σ z) ∧ (p1.toInt + (n : Int) = 21) ∧ (1 ≤ n) ∧ (codY z.1 = 34 ∨ codY z.1 = 35 ∨ codY z.1 = 39 ∨ codY z.1 = 40) ∧ (zFt (aleM (codY z.1) (rbM z) (oM N (n - 1) (ngZ (codY z.1)) (accM z))).1 = 0)
abbrev Qz_readAlone : ((Int → Int) × (Nat → Nat) × (Nat → Nat) × (Nat → Nat) × (Nat → Nat) × ZS × Nat) → CqC := fun y As σ w τ => match y, As with
  | (N, E, A, B, V, z, n), [_, .inl p1] => ExQ N E A B V z (aleM (codY z.1) (rbM z) (oM N (n - 1) (ngZ (codY z.1)) (accM z))) σ w τ
  | _, _ => True
abbrev Uz_readAlone : CqC := fun As σ w τ => ∀ y, Pz_readAlone y As σ → Qz_readAlone y As σ w τ
abbrev Pz_readBehindOpen : ((Int → Int) × (Nat → Nat) × (Nat → Nat) × (Nat → Nat) × (Nat → Nat) × ZS × Nat) → CpC := fun y As σ => match y with
  | (N, E, A, B, V, z, n) => ∃ (p1 : Int32), As = [.inr (.inr (some (E 0))), .inl p1] ∧ (ZC N E A B V σ z) ∧ (p1.toInt + (n : Int) = 21) ∧ (1 ≤ n) ∧ (codY z.1 = 0) ∧ (zFt (op2M (oM N (n - 1)) (eM N (n - 1)) (rbM z) (accM z)).1 = 0)
abbrev Qz_readBehindOpen : ((Int → Int) × (Nat → Nat) × (Nat → Nat) × (Nat → Nat) × (Nat → Nat) × ZS × Nat) → CqC := fun y As σ w τ => match y, As with
  | (N, E, A, B, V, z, n), [_, .inl p1] => ExQ N E A B V z (op2M (oM N (n - 1)) (eM N (n - 1)) (rbM z) (accM z)) σ w τ
  | _, _ => True
abbrev Uz_readBehindOpen : CqC := fun As σ w τ => ∀ y, Pz_readBehindOpen y As σ → Qz_readBehindOpen y As σ w τ
abbrev Pz_readName : ((Int → Int) × (Nat → Nat) × (Nat → Nat) × (Nat → Nat) × (Nat → Nat) × ZS × Nat) → CpC := fun y As σ => match y with
  | (N, E, A, B, V, z, n) => ∃ (p1 : Int32), As = [.inr (.inr (some (E 0))), .inl p1] ∧ (ZC N E A B V σ z) ∧ (p1.toInt + (n : Int) = 21) ∧ (1 ≤ n) ∧ (codY z.1 = 80) ∧ (zFt (nmeM N (n - 1) (eM N (n - 1)) z).1 = 0)
abbrev Qz_readName : ((Int → Int) × (Nat → Nat) × (Nat → Nat) × (Nat → Nat) × (Nat → Nat) × ZS × Nat) → CqC := fun y As σ w τ => match y, As with
  | (N, E, A, B, V, z, n), [_, .inl p1] => ExQ N E A B V z (nmeM N (n - 1) (eM N (n - 1)) z) σ w τ
  | _, _ => True
abbrev Uz_readName : CqC := fun As σ w τ => ∀ y, Pz_readName y As σ → Qz_readName y As σ w τ
abbrev Pz_readCall : ((Int → Int) × (Nat → Nat) × (Nat → Nat) × (Nat → Nat) × (Nat → Nat) × ZS × Nat) → CpC := fun y As σ => match y with
  | (N, E, A, B, V, z, n) => ∃ (p1 : Int32), As = [.inr (.inr (some (E 0))), .inl p1] ∧ (ZC N E A B V σ z) ∧ (p1.toInt + (n : Int) = 21) ∧ (1 ≤ n) ∧ (codY z.1 = 80 ∧ cobY z.1 = 0) ∧ (zFt (ca2M (n - 1) (eM N (n - 1)) (rbM z) (accM (accM z))).1 = 0)
abbrev Qz_readCall : ((Int → Int) × (Nat → Nat) × (Nat → Nat) × (Nat → Nat) × (Nat → Nat) × ZS × Nat) → CqC := fun y As σ w τ => match y, As with
  | (N, E, A, B, V, z, n), [_, .inl p1] => ExQ N E A B V z (ca2M (n - 1) (eM N (n - 1)) (rbM z) (accM (accM z))) σ w τ
  | _, _ => True
abbrev Uz_readCall : CqC := fun As σ w τ => ∀ y, Pz_readCall y As σ → Qz_readCall y As σ w τ
set_option maxHeartbeats 4000000 in
theorem pz_readInnerOperand (y : (Int → Int) × (Nat → Nat) × (Nat → Nat) × (Nat → Nat) × (Nat → Nat) × ZS × Nat) : PbC KX7_readInnerOperand [(131, TrP, EqC 131), (170, TrP, EqC 170), (162, TrP, EqC 162)] [(131, Uz_isTooDeep), (170, Uz_readOperand), (162, Uz_opened)] (fun As σ => Pz_readInnerOperand y As σ ∧ cnC σ ≤ 1000000 ∧ ∃ w τ, uqC quL 171 As σ w τ) (Qz_readInnerOperand y) := by
  obtain ⟨N, E, A, B, V, z, n⟩ := y
  rintro As σ ⟨⟨p1, rfl, hZ, hd, hft⟩, hcn, _, _, hQ⟩ K hB hW n_
  have hH : HI0 σ ∧ TyC σ (E 0) 8 := hQ
  have hat := hZ.at0 hH
  have hn : 1 ≤ n := Classical.byContradiction (fun q => by
    obtain rfl : n = 0 := by omega
    exact raiY_z (by decide) hft)
  have ef : oM N n 0 = opM N n 0 := by rw [oM_s hn]
  change K n_ 0 [(0, .inr (.inr (some (E 0)))), (1, .inl p1)] [] σ
  refine hB _ _ _ _ _ (fun m51 hm51 => ?_)
  dsimp only [ucgo, ucwp, ucsC, uqC, uoC, ctC, rfd, KX7_readInnerOperand, KX7_readInnerOperand_0, KX7_readInnerOperand_8, KX7_readInnerOperand_17, KX7_readInnerOperand_22, lkC, s1C, s2C, dlC, kyC, Nat.beq, Nat.ble, rcd, rno, rsw, Nat.reduceAdd, Nat.reduceBEq, Nat.reduceDiv, List.drop, List.take, List.reverse, List.reverseAux, Int.toNat, Option.toList, List.append, List.cons_append, List.nil_append]
  intro w52 τ52 o52 q52
  obtain ⟨r52, rfl, hr52, rfl⟩ := q52 (N, E, A, B, V, z) ⟨_, rfl, hZ, by omega⟩
  try dsimp only [Option.toList, List.cons_append, List.nil_append, s1C, s2C, dlC, kyC, Nat.beq, lkC, rcd, rno, rsw]
  refine ⟨fun h53 => ?_, fun h53 => ?_⟩
  · have g53 := (eqI (x := r52) (y := 0) h53 : (r52 : Int32).toInt = (0 : Int32).toInt)
    have z0_ : (0 : Int32).toInt = 0 := rfl
    refine hB _ _ _ _ _ (fun m54 hm54 => ?_)
    dsimp only [ucgo, ucwp, ucsC, uqC, uoC, ctC, rfd, KX7_readInnerOperand, KX7_readInnerOperand_0, KX7_readInnerOperand_8, KX7_readInnerOperand_17, KX7_readInnerOperand_22, lkC, s1C, s2C, dlC, kyC, Nat.beq, Nat.ble, rcd, rno, rsw, Nat.reduceAdd, Nat.reduceBEq, Nat.reduceDiv, List.drop, List.take, List.reverse, List.reverseAux, Int.toNat, Option.toList, List.append, List.cons_append, List.nil_append]
    intro w55 τ55 o55 q55
    obtain ⟨A55, rfl, hZ55, hf55, ht55, hx55⟩ : ExQ N E A B V z (opM N n 0 z) σ w55 τ55 := q55 (N, E, A, B, V, z, n) ⟨_, rfl, hZ, by omega, by omega, (by rw [← ef]; exact hft)⟩
    have hF55 := FzC.tr (FzC.rf (n := cnC σ) (m := xnM z) (E := E) (A := A) (B := B) (V := V) (z := z) (σ := σ)) (FzC.mo hf55 (Nat.le_refl (cnC σ)) ((FzC.rf (n := cnC σ) (m := xnM z) (E := E) (A := A) (B := B) (V := V) (z := z) (σ := σ))).2.2.1.1.1)
    have hL55 := LsX.fz (LsX.nil (N := N) (A := A) (n0 := cnC σ) (σ := σ) (z := z)) hf55
    have hle55 : cnC σ ≤ cnC τ55 := Nat.le_trans (Nat.le_refl (cnC σ)) (hf55).1
    try dsimp only [Option.toList, List.cons_append, List.nil_append, s1C, s2C, dlC, kyC, Nat.beq, lkC, rcd, rno, rsw]
    refine hB _ _ _ _ _ (fun m56 hm56 => ?_)
    dsimp only [ucgo, ucwp, ucsC, uqC, uoC, ctC, rfd, KX7_readInnerOperand, KX7_readInnerOperand_0, KX7_readInnerOperand_8, KX7_readInnerOperand_17, KX7_readInnerOperand_22, lkC, s1C, s2C, dlC, kyC, Nat.beq, Nat.ble, rcd, rno, rsw, Nat.reduceAdd, Nat.reduceBEq, Nat.reduceDiv, List.drop, List.take, List.reverse, List.reverseAux, Int.toNat, Option.toList, List.append, List.cons_append, List.nil_append]
    try dsimp only [Qz_readInnerOperand]
    rw [ef]
    exact ⟨A55, rfl, hZ55, hF55, ht55, hx55⟩
  · have g53 := (neI (x := r52) (y := 0) h53 : ¬ (r52 : Int32).toInt = (0 : Int32).toInt)
    have z0_ : (0 : Int32).toInt = 0 := rfl
    exfalso
    omega
set_option maxHeartbeats 4000000 in
theorem pz_readExp (y : (Int → Int) × (Nat → Nat) × (Nat → Nat) × (Nat → Nat) × (Nat → Nat) × ZS × Nat) : PbC KX7_readExp [(131, TrP, EqC 131), (125, TrP, EqC 125), (166, TrP, EqC 166), (126, TrP, EqC 126), (133, TrP, EqC 133), (165, TrP, EqC 165), (162, TrP, EqC 162)] [(131, Uz_isTooDeep), (125, Uz_code), (166, Uz_readChoice), (126, Uz_codeBehind), (133, Uz_isAssign), (165, Uz_readAssignment), (162, Uz_opened)] (fun As σ => Pz_readExp y As σ ∧ cnC σ ≤ 1000000 ∧ ∃ w τ, uqC quL 164 As σ w τ) (Qz_readExp y) := by
  obtain ⟨N, E, A, B, V, z, n⟩ := y
  rintro As σ ⟨⟨p1, rfl, hZ, hd, hft⟩, hcn, _, _, hQ⟩ K hB hW n_
  have hH : HI0 σ ∧ TyC σ (E 0) 8 := hQ
  have hat := hZ.at0 hH
  have hn : 1 ≤ n := Classical.byContradiction (fun q => by
    obtain rfl : n = 0 := by omega
    exact raiY_z (by decide) hft)
  have e1 : codY z.1 = 80 → (8 ≤ cobY z.1 ∧ cobY z.1 ≤ 19) → eM N n z = asgM N (eM N (n - 1)) z := fun q1 q2 => by
    rw [eM_s hn]
    show xpsM N (opM N n 0) (eM N (n - 1)) (cM N (n - 1)) z = _
    unfold xpsM
    rw [if_pos q1, if_pos q2]
  have e2 : ¬ (codY z.1 = 80 ∧ 8 ≤ cobY z.1 ∧ cobY z.1 ≤ 19) → eM N n z = chM N n z := fun q => by
    rw [eM_s hn]
    show xpsM N (opM N n 0) (eM N (n - 1)) (cM N (n - 1)) z = _
    unfold xpsM
    by_cases q1 : codY z.1 = 80
    · rw [if_pos q1, if_neg (fun q2 => q ⟨q1, q2⟩)]
      rfl
    · rw [if_neg q1]
      rfl
  change K n_ 0 [(0, .inr (.inr (some (E 0)))), (1, .inl p1)] [] σ
  refine hB _ _ _ _ _ (fun m51 hm51 => ?_)
  dsimp only [ucgo, ucwp, ucsC, uqC, uoC, ctC, rfd, KX7_readExp, KX7_readExp_0, KX7_readExp_8, KX7_readExp_15, KX7_readExp_24, KX7_readExp_34, KX7_readExp_42, KX7_readExp_47, lkC, s1C, s2C, dlC, kyC, Nat.beq, Nat.ble, rcd, rno, rsw, Nat.reduceAdd, Nat.reduceBEq, Nat.reduceDiv, List.drop, List.take, List.reverse, List.reverseAux, Int.toNat, Option.toList, List.append, List.cons_append, List.nil_append]
  intro w52 τ52 o52 q52
  obtain ⟨r52, rfl, hr52, rfl⟩ := q52 (N, E, A, B, V, z) ⟨_, rfl, hZ, by omega⟩
  try dsimp only [Option.toList, List.cons_append, List.nil_append, s1C, s2C, dlC, kyC, Nat.beq, lkC, rcd, rno, rsw]
  refine ⟨fun h53 => ?_, fun h53 => ?_⟩
  · have g53 := (eqI (x := r52) (y := 0) h53 : (r52 : Int32).toInt = (0 : Int32).toInt)
    have z0_ : (0 : Int32).toInt = 0 := rfl
    refine hB _ _ _ _ _ (fun m54 hm54 => ?_)
    dsimp only [ucgo, ucwp, ucsC, uqC, uoC, ctC, rfd, KX7_readExp, KX7_readExp_0, KX7_readExp_8, KX7_readExp_15, KX7_readExp_24, KX7_readExp_34, KX7_readExp_42, KX7_readExp_47, lkC, s1C, s2C, dlC, kyC, Nat.beq, Nat.ble, rcd, rno, rsw, Nat.reduceAdd, Nat.reduceBEq, Nat.reduceDiv, List.drop, List.take, List.reverse, List.reverseAux, Int.toNat, Option.toList, List.append, List.cons_append, List.nil_append]
    intro w55 τ55 o55 q55
    obtain ⟨c55, rfl, hc55, rfl⟩ := q55 (N, E, A, B, V, z) ⟨rfl, hZ⟩
    try dsimp only [Option.toList, List.cons_append, List.nil_append, s1C, s2C, dlC, kyC, Nat.beq, lkC, rcd, rno, rsw]
    have c56 : (Int32.ofInt 80).toInt = 80 := by decide
    refine ⟨fun h57 => ?_, fun h57 => ?_⟩
    · have g57 := (neI (x := c55) (y := (Int32.ofInt 80)) h57 : ¬ (c55 : Int32).toInt = ((Int32.ofInt 80) : Int32).toInt)
      refine hB _ _ _ _ _ (fun m58 hm58 => ?_)
      dsimp only [ucgo, ucwp, ucsC, uqC, uoC, ctC, rfd, KX7_readExp, KX7_readExp_0, KX7_readExp_8, KX7_readExp_15, KX7_readExp_24, KX7_readExp_34, KX7_readExp_42, KX7_readExp_47, lkC, s1C, s2C, dlC, kyC, Nat.beq, Nat.ble, rcd, rno, rsw, Nat.reduceAdd, Nat.reduceBEq, Nat.reduceDiv, List.drop, List.take, List.reverse, List.reverseAux, Int.toNat, Option.toList, List.append, List.cons_append, List.nil_append]
      intro w59 τ59 o59 q59
      obtain ⟨A59, rfl, hZ59, hf59, ht59, hx59⟩ : ExQ N E A B V z (chM N n z) σ w59 τ59 := q59 (N, E, A, B, V, z, n) ⟨_, rfl, hZ, by omega, by omega, (by rw [← e2 (by omega)]; exact hft)⟩
      have hF59 := FzC.tr (FzC.rf (n := cnC σ) (m := xnM z) (E := E) (A := A) (B := B) (V := V) (z := z) (σ := σ)) (FzC.mo hf59 (Nat.le_refl (cnC σ)) ((FzC.rf (n := cnC σ) (m := xnM z) (E := E) (A := A) (B := B) (V := V) (z := z) (σ := σ))).2.2.1.1.1)
      have hL59 := LsX.fz (LsX.nil (N := N) (A := A) (n0 := cnC σ) (σ := σ) (z := z)) hf59
      have hle59 : cnC σ ≤ cnC τ59 := Nat.le_trans (Nat.le_refl (cnC σ)) (hf59).1
      try dsimp only [Option.toList, List.cons_append, List.nil_append, s1C, s2C, dlC, kyC, Nat.beq, lkC, rcd, rno, rsw]
      refine hB _ _ _ _ _ (fun m60 hm60 => ?_)
      dsimp only [ucgo, ucwp, ucsC, uqC, uoC, ctC, rfd, KX7_readExp, KX7_readExp_0, KX7_readExp_8, KX7_readExp_15, KX7_readExp_24, KX7_readExp_34, KX7_readExp_42, KX7_readExp_47, lkC, s1C, s2C, dlC, kyC, Nat.beq, Nat.ble, rcd, rno, rsw, Nat.reduceAdd, Nat.reduceBEq, Nat.reduceDiv, List.drop, List.take, List.reverse, List.reverseAux, Int.toNat, Option.toList, List.append, List.cons_append, List.nil_append]
      try dsimp only [Qz_readExp]
      rw [e2 (by omega)]
      exact ⟨A59, rfl, hZ59, hF59, ht59, hx59⟩
    · have g57 := (eqI (x := c55) (y := (Int32.ofInt 80)) h57 : (c55 : Int32).toInt = ((Int32.ofInt 80) : Int32).toInt)
      refine hB _ _ _ _ _ (fun m61 hm61 => ?_)
      dsimp only [ucgo, ucwp, ucsC, uqC, uoC, ctC, rfd, KX7_readExp, KX7_readExp_0, KX7_readExp_8, KX7_readExp_15, KX7_readExp_24, KX7_readExp_34, KX7_readExp_42, KX7_readExp_47, lkC, s1C, s2C, dlC, kyC, Nat.beq, Nat.ble, rcd, rno, rsw, Nat.reduceAdd, Nat.reduceBEq, Nat.reduceDiv, List.drop, List.take, List.reverse, List.reverseAux, Int.toNat, Option.toList, List.append, List.cons_append, List.nil_append]
      intro w62 τ62 o62 q62
      obtain ⟨c62, rfl, hc62, rfl⟩ := q62 (N, E, A, B, V, z) ⟨rfl, hZ⟩
      try dsimp only [Option.toList, List.cons_append, List.nil_append, s1C, s2C, dlC, kyC, Nat.beq, lkC, rcd, rno, rsw]
      intro w63 τ63 o63 q63
      have qq63 := q63 (N, E, A, B, V, z) ⟨_, rfl⟩
      obtain ⟨r63, rfl, hr63, rfl⟩ : ∃ r, w63 = some (.inl r) ∧ ((r.toInt = 1 ∧ (8 ≤ (c62 : Int32).toInt ∧ (c62 : Int32).toInt ≤ 19)) ∨ (r.toInt = 0 ∧ ¬ (8 ≤ (c62 : Int32).toInt ∧ (c62 : Int32).toInt ≤ 19))) ∧ σ = τ63 := by
        rcases qq63 with ⟨r, h1, h2, h3, h4⟩ | ⟨r, h1, h2, h3, h4⟩
        · exact ⟨r, h1, Or.inl ⟨h2, h3⟩, h4⟩
        · exact ⟨r, h1, Or.inr ⟨h2, h3⟩, h4⟩
      try dsimp only [Option.toList, List.cons_append, List.nil_append, s1C, s2C, dlC, kyC, Nat.beq, lkC, rcd, rno, rsw]
      refine ⟨fun h64 => ?_, fun h64 => ?_⟩
      · have g64 := (eqI (x := r63) (y := 0) h64 : (r63 : Int32).toInt = (0 : Int32).toInt)
        have z0_ : (0 : Int32).toInt = 0 := rfl
        refine hB _ _ _ _ _ (fun m65 hm65 => ?_)
        dsimp only [ucgo, ucwp, ucsC, uqC, uoC, ctC, rfd, KX7_readExp, KX7_readExp_0, KX7_readExp_8, KX7_readExp_15, KX7_readExp_24, KX7_readExp_34, KX7_readExp_42, KX7_readExp_47, lkC, s1C, s2C, dlC, kyC, Nat.beq, Nat.ble, rcd, rno, rsw, Nat.reduceAdd, Nat.reduceBEq, Nat.reduceDiv, List.drop, List.take, List.reverse, List.reverseAux, Int.toNat, Option.toList, List.append, List.cons_append, List.nil_append]
        intro w66 τ66 o66 q66
        obtain ⟨A66, rfl, hZ66, hf66, ht66, hx66⟩ : ExQ N E A B V z (chM N n z) σ w66 τ66 := q66 (N, E, A, B, V, z, n) ⟨_, rfl, hZ, by omega, by omega, (by rw [← e2 (by omega)]; exact hft)⟩
        have hF66 := FzC.tr (FzC.rf (n := cnC σ) (m := xnM z) (E := E) (A := A) (B := B) (V := V) (z := z) (σ := σ)) (FzC.mo hf66 (Nat.le_refl (cnC σ)) ((FzC.rf (n := cnC σ) (m := xnM z) (E := E) (A := A) (B := B) (V := V) (z := z) (σ := σ))).2.2.1.1.1)
        have hL66 := LsX.fz (LsX.nil (N := N) (A := A) (n0 := cnC σ) (σ := σ) (z := z)) hf66
        have hle66 : cnC σ ≤ cnC τ66 := Nat.le_trans (Nat.le_refl (cnC σ)) (hf66).1
        try dsimp only [Option.toList, List.cons_append, List.nil_append, s1C, s2C, dlC, kyC, Nat.beq, lkC, rcd, rno, rsw]
        refine hB _ _ _ _ _ (fun m67 hm67 => ?_)
        dsimp only [ucgo, ucwp, ucsC, uqC, uoC, ctC, rfd, KX7_readExp, KX7_readExp_0, KX7_readExp_8, KX7_readExp_15, KX7_readExp_24, KX7_readExp_34, KX7_readExp_42, KX7_readExp_47, lkC, s1C, s2C, dlC, kyC, Nat.beq, Nat.ble, rcd, rno, rsw, Nat.reduceAdd, Nat.reduceBEq, Nat.reduceDiv, List.drop, List.take, List.reverse, List.reverseAux, Int.toNat, Option.toList, List.append, List.cons_append, List.nil_append]
        try dsimp only [Qz_readExp]
        rw [e2 (by omega)]
        exact ⟨A66, rfl, hZ66, hF66, ht66, hx66⟩
      · have g64 := (neI (x := r63) (y := 0) h64 : ¬ (r63 : Int32).toInt = (0 : Int32).toInt)
        have z0_ : (0 : Int32).toInt = 0 := rfl
        refine hB _ _ _ _ _ (fun m68 hm68 => ?_)
        dsimp only [ucgo, ucwp, ucsC, uqC, uoC, ctC, rfd, KX7_readExp, KX7_readExp_0, KX7_readExp_8, KX7_readExp_15, KX7_readExp_24, KX7_readExp_34, KX7_readExp_42, KX7_readExp_47, lkC, s1C, s2C, dlC, kyC, Nat.beq, Nat.ble, rcd, rno, rsw, Nat.reduceAdd, Nat.reduceBEq, Nat.reduceDiv, List.drop, List.take, List.reverse, List.reverseAux, Int.toNat, Option.toList, List.append, List.cons_append, List.nil_append]
        intro w69 τ69 o69 q69
        obtain ⟨A69, rfl, hZ69, hf69, ht69, hx69⟩ : ExQ N E A B V z (asgM N (eM N (n - 1)) z) σ w69 τ69 := q69 (N, E, A, B, V, z, n) ⟨_, rfl, hZ, by omega, by omega, (by omega), (by rw [← e1 (by omega) (by omega)]; exact hft)⟩
        have hF69 := FzC.tr (FzC.rf (n := cnC σ) (m := xnM z) (E := E) (A := A) (B := B) (V := V) (z := z) (σ := σ)) (FzC.mo hf69 (Nat.le_refl (cnC σ)) ((FzC.rf (n := cnC σ) (m := xnM z) (E := E) (A := A) (B := B) (V := V) (z := z) (σ := σ))).2.2.1.1.1)
        have hL69 := LsX.fz (LsX.nil (N := N) (A := A) (n0 := cnC σ) (σ := σ) (z := z)) hf69
        have hle69 : cnC σ ≤ cnC τ69 := Nat.le_trans (Nat.le_refl (cnC σ)) (hf69).1
        try dsimp only [Option.toList, List.cons_append, List.nil_append, s1C, s2C, dlC, kyC, Nat.beq, lkC, rcd, rno, rsw]
        refine hB _ _ _ _ _ (fun m70 hm70 => ?_)
        dsimp only [ucgo, ucwp, ucsC, uqC, uoC, ctC, rfd, KX7_readExp, KX7_readExp_0, KX7_readExp_8, KX7_readExp_15, KX7_readExp_24, KX7_readExp_34, KX7_readExp_42, KX7_readExp_47, lkC, s1C, s2C, dlC, kyC, Nat.beq, Nat.ble, rcd, rno, rsw, Nat.reduceAdd, Nat.reduceBEq, Nat.reduceDiv, List.drop, List.take, List.reverse, List.reverseAux, Int.toNat, Option.toList, List.append, List.cons_append, List.nil_append]
        try dsimp only [Qz_readExp]
        rw [e1 (by omega) (by omega)]
        exact ⟨A69, rfl, hZ69, hF69, ht69, hx69⟩
  · have g53 := (neI (x := r52) (y := 0) h53 : ¬ (r52 : Int32).toInt = (0 : Int32).toInt)
    have z0_ : (0 : Int32).toInt = 0 := rfl
    exfalso
    omega
set_option maxHeartbeats 4000000 in
theorem pz_readOperand (y : (Int → Int) × (Nat → Nat) × (Nat → Nat) × (Nat → Nat) × (Nat → Nat) × ZS × Nat) : PbC KX7_readOperand [(125, TrP, EqC 125), (174, TrP, EqC 174), (172, TrP, EqC 172), (173, TrP, EqC 173), (177, TrP, EqC 177), (175, TrP, EqC 175), (127, TrP, EqC 127), (162, TrP, EqC 162)] [(125, Uz_code), (174, Uz_readBehindOpen), (172, Uz_readAlone), (173, Uz_readCountAhead), (177, Uz_readLiteral), (175, Uz_readName), (162, Uz_opened)] (fun As σ => Pz_readOperand y As σ ∧ cnC σ ≤ 1000000 ∧ ∃ w τ, uqC quL 170 As σ w τ) (Qz_readOperand y) := by
  obtain ⟨N, E, A, B, V, z, n⟩ := y
  rintro As σ ⟨⟨p1, rfl, hZ, hd, hn, hft⟩, hcn, _, _, hQ⟩ K hB hW n_
  have hH : HI0 σ ∧ TyC σ (E 0) 8 := hQ
  have hat := hZ.at0 hH
  have o1 : (codY z.1 = 34 ∨ codY z.1 = 35 ∨ codY z.1 = 39 ∨ codY z.1 = 40) → opM N n 0 z = aleM (codY z.1) (rbM z) (oM N (n - 1) (ngZ (codY z.1)) (accM z)) := fun q => by
    unfold opM oprM
    rw [if_pos q]
  have o2 : (codY z.1 = 41 ∨ codY z.1 = 42) → opM N n 0 z = xpM 80 (puM (preZ (lkM N z (zAt z.1 + 1)) (xnM z) z.1) (accM z)) := fun q => by
    unfold opM oprM
    rw [if_neg (by omega), if_pos q]
  have o3 : codY z.1 = 0 → opM N n 0 z = op2M (oM N (n - 1)) (eM N (n - 1)) (rbM z) (accM z) := fun q => by
    unfold opM oprM
    rw [if_neg (by omega), if_neg (by omega), if_pos q]
  have o4 : codY z.1 = 80 → opM N n 0 z = nmeM N (n - 1) (eM N (n - 1)) z := fun q => by
    unfold opM oprM
    rw [if_neg (by omega), if_neg (by omega), if_neg (by omega), if_pos q]
  have o5 : (codY z.1 = 81 ∨ codY z.1 = 82 ∨ codY z.1 = 83 ∨ codY z.1 = 72 ∨ codY z.1 = 73) → opM N n 0 z = puM (litZ 0 (xnM z) z.1) (accM z) := fun q => by
    unfold opM oprM
    rw [if_neg (by omega), if_neg (by omega), if_neg (by omega), if_neg (by omega), if_pos q]
  have o6 : ¬ (codY z.1 = 34 ∨ codY z.1 = 35 ∨ codY z.1 = 39 ∨ codY z.1 = 40) → ¬ (codY z.1 = 41 ∨ codY z.1 = 42) → ¬ codY z.1 = 0 → ¬ codY z.1 = 80 → ¬ (codY z.1 = 81 ∨ codY z.1 = 82 ∨ codY z.1 = 83 ∨ codY z.1 = 72 ∨ codY z.1 = 73) → False := fun q1 q2 q3 q4 q5 => by
    unfold opM oprM at hft
    rw [if_neg q1, if_neg q2, if_neg q3, if_neg q4, if_neg q5] at hft
    exact raiY_z (by decide) hft
  change K n_ 0 [(0, .inr (.inr (some (E 0)))), (1, .inl p1)] [] σ
  refine hB _ _ _ _ _ (fun m51 hm51 => ?_)
  dsimp only [ucgo, ucwp, ucsC, uqC, uoC, ctC, rfd, KX7_readOperand, KX7_readOperand_0, KX7_readOperand_120, KX7_readOperand_126, KX7_readOperand_131, KX7_readOperand_137, KX7_readOperand_143, KX7_readOperand_148, lkC, s1C, s2C, dlC, kyC, Nat.beq, Nat.ble, rcd, rno, rsw, Nat.reduceAdd, Nat.reduceBEq, Nat.reduceDiv, List.drop, List.take, List.reverse, List.reverseAux, Int.toNat, Option.toList, List.append, List.cons_append, List.nil_append]
  intro w52 τ52 o52 q52
  obtain ⟨c52, rfl, hc52, rfl⟩ := q52 (N, E, A, B, V, z) ⟨rfl, hZ⟩
  try dsimp only [Option.toList, List.cons_append, List.nil_append, s1C, s2C, dlC, kyC, Nat.beq, lkC, rcd, rno, rsw]
  refine ⟨fun h53 => ?_, fun h53 => ?_⟩
  · have g53 : (c52 : Int32).toInt = 0 := h53
    refine hB _ _ _ _ _ (fun m54 hm54 => ?_)
    dsimp only [ucgo, ucwp, ucsC, uqC, uoC, ctC, rfd, KX7_readOperand, KX7_readOperand_0, KX7_readOperand_120, KX7_readOperand_126, KX7_readOperand_131, KX7_readOperand_137, KX7_readOperand_143, KX7_readOperand_148, lkC, s1C, s2C, dlC, kyC, Nat.beq, Nat.ble, rcd, rno, rsw, Nat.reduceAdd, Nat.reduceBEq, Nat.reduceDiv, List.drop, List.take, List.reverse, List.reverseAux, Int.toNat, Option.toList, List.append, List.cons_append, List.nil_append]
    intro w55 τ55 o55 q55
    obtain ⟨A55, rfl, hZ55, hf55, ht55, hx55⟩ : ExQ N E A B V z (op2M (oM N (n - 1)) (eM N (n - 1)) (rbM z) (accM z)) σ w55 τ55 := q55 (N, E, A, B, V, z, n) ⟨_, rfl, hZ, by omega, by omega, by omega, (by rw [← o3 (by omega)]; exact hft)⟩
    have hF55 := FzC.tr (FzC.rf (n := cnC σ) (m := xnM z) (E := E) (A := A) (B := B) (V := V) (z := z) (σ := σ)) (FzC.mo hf55 (Nat.le_refl (cnC σ)) ((FzC.rf (n := cnC σ) (m := xnM z) (E := E) (A := A) (B := B) (V := V) (z := z) (σ := σ))).2.2.1.1.1)
    have hL55 := LsX.fz (LsX.nil (N := N) (A := A) (n0 := cnC σ) (σ := σ) (z := z)) hf55
    have hle55 : cnC σ ≤ cnC τ55 := Nat.le_trans (Nat.le_refl (cnC σ)) (hf55).1
    try dsimp only [Option.toList, List.cons_append, List.nil_append, s1C, s2C, dlC, kyC, Nat.beq, lkC, rcd, rno, rsw]
    try dsimp only [Qz_readOperand]
    rw [o3 (by omega)]
    exact ⟨A55, rfl, hZ55, hF55, ht55, hx55⟩
  have g53 : ¬ (c52 : Int32).toInt = 0 := h53
  refine ⟨fun h56 => ?_, fun h56 => ?_⟩
  · have g56 : (c52 : Int32).toInt = 34 := h56
    refine hB _ _ _ _ _ (fun m57 hm57 => ?_)
    dsimp only [ucgo, ucwp, ucsC, uqC, uoC, ctC, rfd, KX7_readOperand, KX7_readOperand_0, KX7_readOperand_120, KX7_readOperand_126, KX7_readOperand_131, KX7_readOperand_137, KX7_readOperand_143, KX7_readOperand_148, lkC, s1C, s2C, dlC, kyC, Nat.beq, Nat.ble, rcd, rno, rsw, Nat.reduceAdd, Nat.reduceBEq, Nat.reduceDiv, List.drop, List.take, List.reverse, List.reverseAux, Int.toNat, Option.toList, List.append, List.cons_append, List.nil_append]
    intro w58 τ58 o58 q58
    obtain ⟨A58, rfl, hZ58, hf58, ht58, hx58⟩ : ExQ N E A B V z (aleM (codY z.1) (rbM z) (oM N (n - 1) (ngZ (codY z.1)) (accM z))) σ w58 τ58 := q58 (N, E, A, B, V, z, n) ⟨_, rfl, hZ, by omega, by omega, by omega, (by rw [← o1 (by omega)]; exact hft)⟩
    have hF58 := FzC.tr (FzC.rf (n := cnC σ) (m := xnM z) (E := E) (A := A) (B := B) (V := V) (z := z) (σ := σ)) (FzC.mo hf58 (Nat.le_refl (cnC σ)) ((FzC.rf (n := cnC σ) (m := xnM z) (E := E) (A := A) (B := B) (V := V) (z := z) (σ := σ))).2.2.1.1.1)
    have hL58 := LsX.fz (LsX.nil (N := N) (A := A) (n0 := cnC σ) (σ := σ) (z := z)) hf58
    have hle58 : cnC σ ≤ cnC τ58 := Nat.le_trans (Nat.le_refl (cnC σ)) (hf58).1
    try dsimp only [Option.toList, List.cons_append, List.nil_append, s1C, s2C, dlC, kyC, Nat.beq, lkC, rcd, rno, rsw]
    try dsimp only [Qz_readOperand]
    rw [o1 (by omega)]
    exact ⟨A58, rfl, hZ58, hF58, ht58, hx58⟩
  have g56 : ¬ (c52 : Int32).toInt = 34 := h56
  refine ⟨fun h59 => ?_, fun h59 => ?_⟩
  · have g59 : (c52 : Int32).toInt = 35 := h59
    refine hB _ _ _ _ _ (fun m60 hm60 => ?_)
    dsimp only [ucgo, ucwp, ucsC, uqC, uoC, ctC, rfd, KX7_readOperand, KX7_readOperand_0, KX7_readOperand_120, KX7_readOperand_126, KX7_readOperand_131, KX7_readOperand_137, KX7_readOperand_143, KX7_readOperand_148, lkC, s1C, s2C, dlC, kyC, Nat.beq, Nat.ble, rcd, rno, rsw, Nat.reduceAdd, Nat.reduceBEq, Nat.reduceDiv, List.drop, List.take, List.reverse, List.reverseAux, Int.toNat, Option.toList, List.append, List.cons_append, List.nil_append]
    intro w61 τ61 o61 q61
    obtain ⟨A61, rfl, hZ61, hf61, ht61, hx61⟩ : ExQ N E A B V z (aleM (codY z.1) (rbM z) (oM N (n - 1) (ngZ (codY z.1)) (accM z))) σ w61 τ61 := q61 (N, E, A, B, V, z, n) ⟨_, rfl, hZ, by omega, by omega, by omega, (by rw [← o1 (by omega)]; exact hft)⟩
    have hF61 := FzC.tr (FzC.rf (n := cnC σ) (m := xnM z) (E := E) (A := A) (B := B) (V := V) (z := z) (σ := σ)) (FzC.mo hf61 (Nat.le_refl (cnC σ)) ((FzC.rf (n := cnC σ) (m := xnM z) (E := E) (A := A) (B := B) (V := V) (z := z) (σ := σ))).2.2.1.1.1)
    have hL61 := LsX.fz (LsX.nil (N := N) (A := A) (n0 := cnC σ) (σ := σ) (z := z)) hf61
    have hle61 : cnC σ ≤ cnC τ61 := Nat.le_trans (Nat.le_refl (cnC σ)) (hf61).1
    try dsimp only [Option.toList, List.cons_append, List.nil_append, s1C, s2C, dlC, kyC, Nat.beq, lkC, rcd, rno, rsw]
    try dsimp only [Qz_readOperand]
    rw [o1 (by omega)]
    exact ⟨A61, rfl, hZ61, hF61, ht61, hx61⟩
  have g59 : ¬ (c52 : Int32).toInt = 35 := h59
  refine ⟨fun h62 => ?_, fun h62 => ?_⟩
  · have g62 : (c52 : Int32).toInt = 39 := h62
    refine hB _ _ _ _ _ (fun m63 hm63 => ?_)
    dsimp only [ucgo, ucwp, ucsC, uqC, uoC, ctC, rfd, KX7_readOperand, KX7_readOperand_0, KX7_readOperand_120, KX7_readOperand_126, KX7_readOperand_131, KX7_readOperand_137, KX7_readOperand_143, KX7_readOperand_148, lkC, s1C, s2C, dlC, kyC, Nat.beq, Nat.ble, rcd, rno, rsw, Nat.reduceAdd, Nat.reduceBEq, Nat.reduceDiv, List.drop, List.take, List.reverse, List.reverseAux, Int.toNat, Option.toList, List.append, List.cons_append, List.nil_append]
    intro w64 τ64 o64 q64
    obtain ⟨A64, rfl, hZ64, hf64, ht64, hx64⟩ : ExQ N E A B V z (aleM (codY z.1) (rbM z) (oM N (n - 1) (ngZ (codY z.1)) (accM z))) σ w64 τ64 := q64 (N, E, A, B, V, z, n) ⟨_, rfl, hZ, by omega, by omega, by omega, (by rw [← o1 (by omega)]; exact hft)⟩
    have hF64 := FzC.tr (FzC.rf (n := cnC σ) (m := xnM z) (E := E) (A := A) (B := B) (V := V) (z := z) (σ := σ)) (FzC.mo hf64 (Nat.le_refl (cnC σ)) ((FzC.rf (n := cnC σ) (m := xnM z) (E := E) (A := A) (B := B) (V := V) (z := z) (σ := σ))).2.2.1.1.1)
    have hL64 := LsX.fz (LsX.nil (N := N) (A := A) (n0 := cnC σ) (σ := σ) (z := z)) hf64
    have hle64 : cnC σ ≤ cnC τ64 := Nat.le_trans (Nat.le_refl (cnC σ)) (hf64).1
    try dsimp only [Option.toList, List.cons_append, List.nil_append, s1C, s2C, dlC, kyC, Nat.beq, lkC, rcd, rno, rsw]
    try dsimp only [Qz_readOperand]
    rw [o1 (by omega)]
    exact ⟨A64, rfl, hZ64, hF64, ht64, hx64⟩
  have g62 : ¬ (c52 : Int32).toInt = 39 := h62
  refine ⟨fun h65 => ?_, fun h65 => ?_⟩
  · have g65 : (c52 : Int32).toInt = 40 := h65
    refine hB _ _ _ _ _ (fun m66 hm66 => ?_)
    dsimp only [ucgo, ucwp, ucsC, uqC, uoC, ctC, rfd, KX7_readOperand, KX7_readOperand_0, KX7_readOperand_120, KX7_readOperand_126, KX7_readOperand_131, KX7_readOperand_137, KX7_readOperand_143, KX7_readOperand_148, lkC, s1C, s2C, dlC, kyC, Nat.beq, Nat.ble, rcd, rno, rsw, Nat.reduceAdd, Nat.reduceBEq, Nat.reduceDiv, List.drop, List.take, List.reverse, List.reverseAux, Int.toNat, Option.toList, List.append, List.cons_append, List.nil_append]
    intro w67 τ67 o67 q67
    obtain ⟨A67, rfl, hZ67, hf67, ht67, hx67⟩ : ExQ N E A B V z (aleM (codY z.1) (rbM z) (oM N (n - 1) (ngZ (codY z.1)) (accM z))) σ w67 τ67 := q67 (N, E, A, B, V, z, n) ⟨_, rfl, hZ, by omega, by omega, by omega, (by rw [← o1 (by omega)]; exact hft)⟩
    have hF67 := FzC.tr (FzC.rf (n := cnC σ) (m := xnM z) (E := E) (A := A) (B := B) (V := V) (z := z) (σ := σ)) (FzC.mo hf67 (Nat.le_refl (cnC σ)) ((FzC.rf (n := cnC σ) (m := xnM z) (E := E) (A := A) (B := B) (V := V) (z := z) (σ := σ))).2.2.1.1.1)
    have hL67 := LsX.fz (LsX.nil (N := N) (A := A) (n0 := cnC σ) (σ := σ) (z := z)) hf67
    have hle67 : cnC σ ≤ cnC τ67 := Nat.le_trans (Nat.le_refl (cnC σ)) (hf67).1
    try dsimp only [Option.toList, List.cons_append, List.nil_append, s1C, s2C, dlC, kyC, Nat.beq, lkC, rcd, rno, rsw]
    try dsimp only [Qz_readOperand]
    rw [o1 (by omega)]
    exact ⟨A67, rfl, hZ67, hF67, ht67, hx67⟩
  have g65 : ¬ (c52 : Int32).toInt = 40 := h65
  refine ⟨fun h68 => ?_, fun h68 => ?_⟩
  · have g68 : (c52 : Int32).toInt = 41 := h68
    refine hB _ _ _ _ _ (fun m69 hm69 => ?_)
    dsimp only [ucgo, ucwp, ucsC, uqC, uoC, ctC, rfd, KX7_readOperand, KX7_readOperand_0, KX7_readOperand_120, KX7_readOperand_126, KX7_readOperand_131, KX7_readOperand_137, KX7_readOperand_143, KX7_readOperand_148, lkC, s1C, s2C, dlC, kyC, Nat.beq, Nat.ble, rcd, rno, rsw, Nat.reduceAdd, Nat.reduceBEq, Nat.reduceDiv, List.drop, List.take, List.reverse, List.reverseAux, Int.toNat, Option.toList, List.append, List.cons_append, List.nil_append]
    intro w70 τ70 o70 q70
    obtain ⟨A70, rfl, hZ70, hf70, ht70, hx70⟩ : ExQ N E A B V z (xpM 80 (puM (preZ (lkM N z (zAt z.1 + 1)) (xnM z) z.1) (accM z))) σ w70 τ70 := q70 (N, E, A, B, V, z) ⟨rfl, hZ, by omega, (by rw [← o2 (by omega)]; exact hft)⟩
    have hF70 := FzC.tr (FzC.rf (n := cnC σ) (m := xnM z) (E := E) (A := A) (B := B) (V := V) (z := z) (σ := σ)) (FzC.mo hf70 (Nat.le_refl (cnC σ)) ((FzC.rf (n := cnC σ) (m := xnM z) (E := E) (A := A) (B := B) (V := V) (z := z) (σ := σ))).2.2.1.1.1)
    have hL70 := LsX.fz (LsX.nil (N := N) (A := A) (n0 := cnC σ) (σ := σ) (z := z)) hf70
    have hle70 : cnC σ ≤ cnC τ70 := Nat.le_trans (Nat.le_refl (cnC σ)) (hf70).1
    try dsimp only [Option.toList, List.cons_append, List.nil_append, s1C, s2C, dlC, kyC, Nat.beq, lkC, rcd, rno, rsw]
    try dsimp only [Qz_readOperand]
    rw [o2 (by omega)]
    exact ⟨A70, rfl, hZ70, hF70, ht70, hx70⟩
  have g68 : ¬ (c52 : Int32).toInt = 41 := h68
  refine ⟨fun h71 => ?_, fun h71 => ?_⟩
  · have g71 : (c52 : Int32).toInt = 42 := h71
    refine hB _ _ _ _ _ (fun m72 hm72 => ?_)
    dsimp only [ucgo, ucwp, ucsC, uqC, uoC, ctC, rfd, KX7_readOperand, KX7_readOperand_0, KX7_readOperand_120, KX7_readOperand_126, KX7_readOperand_131, KX7_readOperand_137, KX7_readOperand_143, KX7_readOperand_148, lkC, s1C, s2C, dlC, kyC, Nat.beq, Nat.ble, rcd, rno, rsw, Nat.reduceAdd, Nat.reduceBEq, Nat.reduceDiv, List.drop, List.take, List.reverse, List.reverseAux, Int.toNat, Option.toList, List.append, List.cons_append, List.nil_append]
    intro w73 τ73 o73 q73
    obtain ⟨A73, rfl, hZ73, hf73, ht73, hx73⟩ : ExQ N E A B V z (xpM 80 (puM (preZ (lkM N z (zAt z.1 + 1)) (xnM z) z.1) (accM z))) σ w73 τ73 := q73 (N, E, A, B, V, z) ⟨rfl, hZ, by omega, (by rw [← o2 (by omega)]; exact hft)⟩
    have hF73 := FzC.tr (FzC.rf (n := cnC σ) (m := xnM z) (E := E) (A := A) (B := B) (V := V) (z := z) (σ := σ)) (FzC.mo hf73 (Nat.le_refl (cnC σ)) ((FzC.rf (n := cnC σ) (m := xnM z) (E := E) (A := A) (B := B) (V := V) (z := z) (σ := σ))).2.2.1.1.1)
    have hL73 := LsX.fz (LsX.nil (N := N) (A := A) (n0 := cnC σ) (σ := σ) (z := z)) hf73
    have hle73 : cnC σ ≤ cnC τ73 := Nat.le_trans (Nat.le_refl (cnC σ)) (hf73).1
    try dsimp only [Option.toList, List.cons_append, List.nil_append, s1C, s2C, dlC, kyC, Nat.beq, lkC, rcd, rno, rsw]
    try dsimp only [Qz_readOperand]
    rw [o2 (by omega)]
    exact ⟨A73, rfl, hZ73, hF73, ht73, hx73⟩
  have g71 : ¬ (c52 : Int32).toInt = 42 := h71
  refine ⟨fun h74 => ?_, fun h74 => ?_⟩
  · have g74 : (c52 : Int32).toInt = 72 := h74
    refine hB _ _ _ _ _ (fun m75 hm75 => ?_)
    dsimp only [ucgo, ucwp, ucsC, uqC, uoC, ctC, rfd, KX7_readOperand, KX7_readOperand_0, KX7_readOperand_120, KX7_readOperand_126, KX7_readOperand_131, KX7_readOperand_137, KX7_readOperand_143, KX7_readOperand_148, lkC, s1C, s2C, dlC, kyC, Nat.beq, Nat.ble, rcd, rno, rsw, Nat.reduceAdd, Nat.reduceBEq, Nat.reduceDiv, List.drop, List.take, List.reverse, List.reverseAux, Int.toNat, Option.toList, List.append, List.cons_append, List.nil_append]
    intro w76 τ76 o76 q76
    obtain ⟨A76, rfl, hZ76, hf76, ht76, hx76⟩ : ExQ N E A B V z (puM (litZ 0 (xnM z) z.1) (accM z)) σ w76 τ76 := q76 (N, E, A, B, V, z) ⟨rfl, hZ, by omega, (by rw [← o5 (by omega)]; exact hft)⟩
    have hF76 := FzC.tr (FzC.rf (n := cnC σ) (m := xnM z) (E := E) (A := A) (B := B) (V := V) (z := z) (σ := σ)) (FzC.mo hf76 (Nat.le_refl (cnC σ)) ((FzC.rf (n := cnC σ) (m := xnM z) (E := E) (A := A) (B := B) (V := V) (z := z) (σ := σ))).2.2.1.1.1)
    have hL76 := LsX.fz (LsX.nil (N := N) (A := A) (n0 := cnC σ) (σ := σ) (z := z)) hf76
    have hle76 : cnC σ ≤ cnC τ76 := Nat.le_trans (Nat.le_refl (cnC σ)) (hf76).1
    try dsimp only [Option.toList, List.cons_append, List.nil_append, s1C, s2C, dlC, kyC, Nat.beq, lkC, rcd, rno, rsw]
    try dsimp only [Qz_readOperand]
    rw [o5 (by omega)]
    exact ⟨A76, rfl, hZ76, hF76, ht76, hx76⟩
  have g74 : ¬ (c52 : Int32).toInt = 72 := h74
  refine ⟨fun h77 => ?_, fun h77 => ?_⟩
  · have g77 : (c52 : Int32).toInt = 73 := h77
    refine hB _ _ _ _ _ (fun m78 hm78 => ?_)
    dsimp only [ucgo, ucwp, ucsC, uqC, uoC, ctC, rfd, KX7_readOperand, KX7_readOperand_0, KX7_readOperand_120, KX7_readOperand_126, KX7_readOperand_131, KX7_readOperand_137, KX7_readOperand_143, KX7_readOperand_148, lkC, s1C, s2C, dlC, kyC, Nat.beq, Nat.ble, rcd, rno, rsw, Nat.reduceAdd, Nat.reduceBEq, Nat.reduceDiv, List.drop, List.take, List.reverse, List.reverseAux, Int.toNat, Option.toList, List.append, List.cons_append, List.nil_append]
    intro w79 τ79 o79 q79
    obtain ⟨A79, rfl, hZ79, hf79, ht79, hx79⟩ : ExQ N E A B V z (puM (litZ 0 (xnM z) z.1) (accM z)) σ w79 τ79 := q79 (N, E, A, B, V, z) ⟨rfl, hZ, by omega, (by rw [← o5 (by omega)]; exact hft)⟩
    have hF79 := FzC.tr (FzC.rf (n := cnC σ) (m := xnM z) (E := E) (A := A) (B := B) (V := V) (z := z) (σ := σ)) (FzC.mo hf79 (Nat.le_refl (cnC σ)) ((FzC.rf (n := cnC σ) (m := xnM z) (E := E) (A := A) (B := B) (V := V) (z := z) (σ := σ))).2.2.1.1.1)
    have hL79 := LsX.fz (LsX.nil (N := N) (A := A) (n0 := cnC σ) (σ := σ) (z := z)) hf79
    have hle79 : cnC σ ≤ cnC τ79 := Nat.le_trans (Nat.le_refl (cnC σ)) (hf79).1
    try dsimp only [Option.toList, List.cons_append, List.nil_append, s1C, s2C, dlC, kyC, Nat.beq, lkC, rcd, rno, rsw]
    try dsimp only [Qz_readOperand]
    rw [o5 (by omega)]
    exact ⟨A79, rfl, hZ79, hF79, ht79, hx79⟩
  have g77 : ¬ (c52 : Int32).toInt = 73 := h77
  refine ⟨fun h80 => ?_, fun h80 => ?_⟩
  · have g80 : (c52 : Int32).toInt = 80 := h80
    refine hB _ _ _ _ _ (fun m81 hm81 => ?_)
    dsimp only [ucgo, ucwp, ucsC, uqC, uoC, ctC, rfd, KX7_readOperand, KX7_readOperand_0, KX7_readOperand_120, KX7_readOperand_126, KX7_readOperand_131, KX7_readOperand_137, KX7_readOperand_143, KX7_readOperand_148, lkC, s1C, s2C, dlC, kyC, Nat.beq, Nat.ble, rcd, rno, rsw, Nat.reduceAdd, Nat.reduceBEq, Nat.reduceDiv, List.drop, List.take, List.reverse, List.reverseAux, Int.toNat, Option.toList, List.append, List.cons_append, List.nil_append]
    intro w82 τ82 o82 q82
    obtain ⟨A82, rfl, hZ82, hf82, ht82, hx82⟩ : ExQ N E A B V z (nmeM N (n - 1) (eM N (n - 1)) z) σ w82 τ82 := q82 (N, E, A, B, V, z, n) ⟨_, rfl, hZ, by omega, by omega, by omega, (by rw [← o4 (by omega)]; exact hft)⟩
    have hF82 := FzC.tr (FzC.rf (n := cnC σ) (m := xnM z) (E := E) (A := A) (B := B) (V := V) (z := z) (σ := σ)) (FzC.mo hf82 (Nat.le_refl (cnC σ)) ((FzC.rf (n := cnC σ) (m := xnM z) (E := E) (A := A) (B := B) (V := V) (z := z) (σ := σ))).2.2.1.1.1)
    have hL82 := LsX.fz (LsX.nil (N := N) (A := A) (n0 := cnC σ) (σ := σ) (z := z)) hf82
    have hle82 : cnC σ ≤ cnC τ82 := Nat.le_trans (Nat.le_refl (cnC σ)) (hf82).1
    try dsimp only [Option.toList, List.cons_append, List.nil_append, s1C, s2C, dlC, kyC, Nat.beq, lkC, rcd, rno, rsw]
    try dsimp only [Qz_readOperand]
    rw [o4 (by omega)]
    exact ⟨A82, rfl, hZ82, hF82, ht82, hx82⟩
  have g80 : ¬ (c52 : Int32).toInt = 80 := h80
  refine ⟨fun h83 => ?_, fun h83 => ?_⟩
  · have g83 : (c52 : Int32).toInt = 81 := h83
    refine hB _ _ _ _ _ (fun m84 hm84 => ?_)
    dsimp only [ucgo, ucwp, ucsC, uqC, uoC, ctC, rfd, KX7_readOperand, KX7_readOperand_0, KX7_readOperand_120, KX7_readOperand_126, KX7_readOperand_131, KX7_readOperand_137, KX7_readOperand_143, KX7_readOperand_148, lkC, s1C, s2C, dlC, kyC, Nat.beq, Nat.ble, rcd, rno, rsw, Nat.reduceAdd, Nat.reduceBEq, Nat.reduceDiv, List.drop, List.take, List.reverse, List.reverseAux, Int.toNat, Option.toList, List.append, List.cons_append, List.nil_append]
    intro w85 τ85 o85 q85
    obtain ⟨A85, rfl, hZ85, hf85, ht85, hx85⟩ : ExQ N E A B V z (puM (litZ 0 (xnM z) z.1) (accM z)) σ w85 τ85 := q85 (N, E, A, B, V, z) ⟨rfl, hZ, by omega, (by rw [← o5 (by omega)]; exact hft)⟩
    have hF85 := FzC.tr (FzC.rf (n := cnC σ) (m := xnM z) (E := E) (A := A) (B := B) (V := V) (z := z) (σ := σ)) (FzC.mo hf85 (Nat.le_refl (cnC σ)) ((FzC.rf (n := cnC σ) (m := xnM z) (E := E) (A := A) (B := B) (V := V) (z := z) (σ := σ))).2.2.1.1.1)
    have hL85 := LsX.fz (LsX.nil (N := N) (A := A) (n0 := cnC σ) (σ := σ) (z := z)) hf85
    have hle85 : cnC σ ≤ cnC τ85 := Nat.le_trans (Nat.le_refl (cnC σ)) (hf85).1
    try dsimp only [Option.toList, List.cons_append, List.nil_append, s1C, s2C, dlC, kyC, Nat.beq, lkC, rcd, rno, rsw]
    try dsimp only [Qz_readOperand]
    rw [o5 (by omega)]
    exact ⟨A85, rfl, hZ85, hF85, ht85, hx85⟩
  have g83 : ¬ (c52 : Int32).toInt = 81 := h83
  refine ⟨fun h86 => ?_, fun h86 => ?_⟩
  · have g86 : (c52 : Int32).toInt = 82 := h86
    refine hB _ _ _ _ _ (fun m87 hm87 => ?_)
    dsimp only [ucgo, ucwp, ucsC, uqC, uoC, ctC, rfd, KX7_readOperand, KX7_readOperand_0, KX7_readOperand_120, KX7_readOperand_126, KX7_readOperand_131, KX7_readOperand_137, KX7_readOperand_143, KX7_readOperand_148, lkC, s1C, s2C, dlC, kyC, Nat.beq, Nat.ble, rcd, rno, rsw, Nat.reduceAdd, Nat.reduceBEq, Nat.reduceDiv, List.drop, List.take, List.reverse, List.reverseAux, Int.toNat, Option.toList, List.append, List.cons_append, List.nil_append]
    intro w88 τ88 o88 q88
    obtain ⟨A88, rfl, hZ88, hf88, ht88, hx88⟩ : ExQ N E A B V z (puM (litZ 0 (xnM z) z.1) (accM z)) σ w88 τ88 := q88 (N, E, A, B, V, z) ⟨rfl, hZ, by omega, (by rw [← o5 (by omega)]; exact hft)⟩
    have hF88 := FzC.tr (FzC.rf (n := cnC σ) (m := xnM z) (E := E) (A := A) (B := B) (V := V) (z := z) (σ := σ)) (FzC.mo hf88 (Nat.le_refl (cnC σ)) ((FzC.rf (n := cnC σ) (m := xnM z) (E := E) (A := A) (B := B) (V := V) (z := z) (σ := σ))).2.2.1.1.1)
    have hL88 := LsX.fz (LsX.nil (N := N) (A := A) (n0 := cnC σ) (σ := σ) (z := z)) hf88
    have hle88 : cnC σ ≤ cnC τ88 := Nat.le_trans (Nat.le_refl (cnC σ)) (hf88).1
    try dsimp only [Option.toList, List.cons_append, List.nil_append, s1C, s2C, dlC, kyC, Nat.beq, lkC, rcd, rno, rsw]
    try dsimp only [Qz_readOperand]
    rw [o5 (by omega)]
    exact ⟨A88, rfl, hZ88, hF88, ht88, hx88⟩
  have g86 : ¬ (c52 : Int32).toInt = 82 := h86
  refine ⟨fun h89 => ?_, fun h89 => ?_⟩
  · have g89 : (c52 : Int32).toInt = 83 := h89
    refine hB _ _ _ _ _ (fun m90 hm90 => ?_)
    dsimp only [ucgo, ucwp, ucsC, uqC, uoC, ctC, rfd, KX7_readOperand, KX7_readOperand_0, KX7_readOperand_120, KX7_readOperand_126, KX7_readOperand_131, KX7_readOperand_137, KX7_readOperand_143, KX7_readOperand_148, lkC, s1C, s2C, dlC, kyC, Nat.beq, Nat.ble, rcd, rno, rsw, Nat.reduceAdd, Nat.reduceBEq, Nat.reduceDiv, List.drop, List.take, List.reverse, List.reverseAux, Int.toNat, Option.toList, List.append, List.cons_append, List.nil_append]
    intro w91 τ91 o91 q91
    obtain ⟨A91, rfl, hZ91, hf91, ht91, hx91⟩ : ExQ N E A B V z (puM (litZ 0 (xnM z) z.1) (accM z)) σ w91 τ91 := q91 (N, E, A, B, V, z) ⟨rfl, hZ, by omega, (by rw [← o5 (by omega)]; exact hft)⟩
    have hF91 := FzC.tr (FzC.rf (n := cnC σ) (m := xnM z) (E := E) (A := A) (B := B) (V := V) (z := z) (σ := σ)) (FzC.mo hf91 (Nat.le_refl (cnC σ)) ((FzC.rf (n := cnC σ) (m := xnM z) (E := E) (A := A) (B := B) (V := V) (z := z) (σ := σ))).2.2.1.1.1)
    have hL91 := LsX.fz (LsX.nil (N := N) (A := A) (n0 := cnC σ) (σ := σ) (z := z)) hf91
    have hle91 : cnC σ ≤ cnC τ91 := Nat.le_trans (Nat.le_refl (cnC σ)) (hf91).1
    try dsimp only [Option.toList, List.cons_append, List.nil_append, s1C, s2C, dlC, kyC, Nat.beq, lkC, rcd, rno, rsw]
    try dsimp only [Qz_readOperand]
    rw [o5 (by omega)]
    exact ⟨A91, rfl, hZ91, hF91, ht91, hx91⟩
  have g89 : ¬ (c52 : Int32).toInt = 83 := h89
  exfalso
  exact o6 (by omega) (by omega) (by omega) (by omega) (by omega)
