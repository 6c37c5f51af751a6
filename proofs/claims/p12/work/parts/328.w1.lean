/-! what tokens are worth: class -/
def LwC (r c : Nat) (σ τ : CsC) : Prop := ∀ a j, a < cnC σ → ¬ (a = r ∧ j = c) → eLC τ a j = eLC σ a j
theorem LwC.rf {r c : Nat} {σ : CsC} : LwC r c σ σ := fun _ _ _ _ => rfl
theorem LwC.e {r c : Nat} {σ τ : CsC} (e : eLC τ = eLC σ) : LwC r c σ τ := fun a j _ _ => by rw [e]
theorem LwC.q {r c k : Nat} {v : Int64} {σ τ : CsC} (e : eLC τ = eLC σ) (hk : k = c) : LwC r c σ (qLC τ r (vp_updL (eLC τ r) k v)) ∧ eLC (qLC τ r (vp_updL (eLC τ r) k v)) r c = v := by
  subst hk
  refine ⟨fun a j _ h => ?_, ?_⟩
  · show u1C (eLC τ) r (vp_updL (eLC τ r) k v) a j = _
    by_cases ha : a = r
    · subst ha
      rw [u1C_eq, uL_ne (fun q => h ⟨rfl, q⟩), e]
    · rw [u1C_ne ha, e]
  · show u1C (eLC τ) r (vp_updL (eLC τ r) k v) r k = _
    rw [u1C_eq, uL_eq]
abbrev Pz_cutCharacter : ((Int → Int) × (Nat → Nat) × (Nat → Nat) × (Nat → Nat) × (Nat → Nat) × ZS × TxY × Nat × Nat) → CpC := fun y As σ => match y with
  | (N, E, A, B, V, z, x, r, c) => ∃ (p0 : Nat) (p1 : Int32), As = [.inr (.inr (some p0)), .inl p1] ∧ (fRC σ p0 304 = some r) ∧ ((fIC σ p0 305).toInt = (c : Int)) ∧ (TxC σ p0 x) ∧ (0 ≤ p1.toInt ∧ p1.toInt < x.2)
abbrev Qz_cutCharacter : ((Int → Int) × (Nat → Nat) × (Nat → Nat) × (Nat → Nat) × (Nat → Nat) × ZS × TxY × Nat × Nat) → CqC := fun y As σ w τ => match y, As with
  | (N, E, A, B, V, z, x, r, c), [.inr (.inr (some p0)), .inl p1] => ∀ rr, w = some (.inl rr) → LwC r c σ τ ∧ (0 < rr.toInt → (eLC τ r c).toInt = btY x (p1.toInt + 1))
  | _, _ => True
abbrev Uz_cutCharacter : CqC := fun As σ w τ => ∀ y, Pz_cutCharacter y As σ → Qz_cutCharacter y As σ w τ
set_option maxHeartbeats 4000000 in
theorem pz_cutCharacter (y : (Int → Int) × (Nat → Nat) × (Nat → Nat) × (Nat → Nat) × (Nat → Nat) × ZS × TxY × Nat × Nat) : PbC KX9_cutCharacter [(189, TrP, EqC 189)] [] (fun As σ => Pz_cutCharacter y As σ ∧ cnC σ ≤ 1000000 ∧ ∃ w τ, uqC quL 196 As σ w τ) (Qz_cutCharacter y) := by
  obtain ⟨N, E, A, B, V, z, x, r, c⟩ := y
  rintro As σ ⟨⟨p0, p1, rfl, hr, hc, hx, hp⟩, hcn, _, _, hQ⟩ K hB hW n_
  have hx3 := hx.2.2.2.2
  change K n_ 0 [(0, .inr (.inr (some p0))), (1, .inl p1)] [] σ
  refine hB _ _ _ _ _ (fun m51 hm51 => ?_)
  dsimp only [ucgo, ucwp, ucsC, uqC, uoC, ctC, rfd, KX9_cutCharacter, KX9_cutCharacter_0, KX9_cutCharacter_14, KX9_cutCharacter_20, KX9_cutCharacter_26, KX9_cutCharacter_32, KX9_cutCharacter_44, KX9_cutCharacter_46, lkC, s1C, s2C, dlC, kyC, Nat.beq, Nat.ble, rcd, rno, rsw, Nat.reduceAdd, Nat.reduceBEq, Nat.reduceDiv, List.drop, List.take, List.reverse, List.reverseAux, Int.toNat, Option.toList, List.append, List.cons_append, List.nil_append, zg302, zg304, zg305]
  have c52 : (Int32.ofInt 1).toInt = 1 := by decide
  have u53 := tiC p1
  have a53 : (p1 + (Int32.ofInt 1)).toInt = p1.toInt + 1 := addC (by omega) (by omega) (by omega)
  intro w54 τ54 o54 q54
  obtain ⟨hb54, hu54⟩ : Q_X9_byteAt [.inr (.inr (some p0)), .inl (p1 + (Int32.ofInt 1))] σ w54 τ54 ∧ U_byteAt [.inr (.inr (some p0)), .inl (p1 + (Int32.ofInt 1))] σ w54 τ54 := o54.1.1
  obtain ⟨r54, rfl, rfl⟩ := hb54
  have b54 : r54.toInt = btY x (p1.toInt + 1) := (hu54 x hx r54 rfl).trans (by first | rfl | rw [show ((p1 + (Int32.ofInt 1)) : Int32).toInt = (p1.toInt + 1) from by omega])
  try dsimp only [Option.toList, List.cons_append, List.nil_append, s1C, s2C, dlC, kyC, Nat.beq, lkC, rcd, rno, rsw]
  have c55 : (Int32.ofInt 32).toInt = 32 := by decide
  refine ⟨fun h56 => ?_, fun h56 => ?_⟩
  · have g56 := ltI (x := r54) (y := (Int32.ofInt 32)) h56
    refine hB _ _ _ _ _ (fun m57 hm57 => ?_)
    dsimp only [ucgo, ucwp, ucsC, uqC, uoC, ctC, rfd, KX9_cutCharacter, KX9_cutCharacter_0, KX9_cutCharacter_14, KX9_cutCharacter_20, KX9_cutCharacter_26, KX9_cutCharacter_32, KX9_cutCharacter_44, KX9_cutCharacter_46, lkC, s1C, s2C, dlC, kyC, Nat.beq, Nat.ble, rcd, rno, rsw, Nat.reduceAdd, Nat.reduceBEq, Nat.reduceDiv, List.drop, List.take, List.reverse, List.reverseAux, Int.toNat, Option.toList, List.append, List.cons_append, List.nil_append, zg302, zg304, zg305]
    have c58 : (Int32.ofInt 0).toInt = 0 := by decide
    try dsimp only [Qz_cutCharacter]
    intro rr e9
    cases e9
    exact ⟨LwC.rf, fun q => absurd q (by decide)⟩
  · have g56 := nltI (x := r54) (y := (Int32.ofInt 32)) h56
    refine hB _ _ _ _ _ (fun m59 hm59 => ?_)
    dsimp only [ucgo, ucwp, ucsC, uqC, uoC, ctC, rfd, KX9_cutCharacter, KX9_cutCharacter_0, KX9_cutCharacter_14, KX9_cutCharacter_20, KX9_cutCharacter_26, KX9_cutCharacter_32, KX9_cutCharacter_44, KX9_cutCharacter_46, lkC, s1C, s2C, dlC, kyC, Nat.beq, Nat.ble, rcd, rno, rsw, Nat.reduceAdd, Nat.reduceBEq, Nat.reduceDiv, List.drop, List.take, List.reverse, List.reverseAux, Int.toNat, Option.toList, List.append, List.cons_append, List.nil_append, zg302, zg304, zg305]
    have c60 : (Int32.ofInt 126).toInt = 126 := by decide
    refine ⟨fun h61 => ?_, fun h61 => ?_⟩
    · have g61 := ltI (x := (Int32.ofInt 126)) (y := r54) h61
      refine hB _ _ _ _ _ (fun m62 hm62 => ?_)
      dsimp only [ucgo, ucwp, ucsC, uqC, uoC, ctC, rfd, KX9_cutCharacter, KX9_cutCharacter_0, KX9_cutCharacter_14, KX9_cutCharacter_20, KX9_cutCharacter_26, KX9_cutCharacter_32, KX9_cutCharacter_44, KX9_cutCharacter_46, lkC, s1C, s2C, dlC, kyC, Nat.beq, Nat.ble, rcd, rno, rsw, Nat.reduceAdd, Nat.reduceBEq, Nat.reduceDiv, List.drop, List.take, List.reverse, List.reverseAux, Int.toNat, Option.toList, List.append, List.cons_append, List.nil_append, zg302, zg304, zg305]
      have c63 : (Int32.ofInt 0).toInt = 0 := by decide
      try dsimp only [Qz_cutCharacter]
      intro rr e9
      cases e9
      exact ⟨LwC.rf, fun q => absurd q (by decide)⟩
    · have g61 := nltI (x := (Int32.ofInt 126)) (y := r54) h61
      refine hB _ _ _ _ _ (fun m64 hm64 => ?_)
      dsimp only [ucgo, ucwp, ucsC, uqC, uoC, ctC, rfd, KX9_cutCharacter, KX9_cutCharacter_0, KX9_cutCharacter_14, KX9_cutCharacter_20, KX9_cutCharacter_26, KX9_cutCharacter_32, KX9_cutCharacter_44, KX9_cutCharacter_46, lkC, s1C, s2C, dlC, kyC, Nat.beq, Nat.ble, rcd, rno, rsw, Nat.reduceAdd, Nat.reduceBEq, Nat.reduceDiv, List.drop, List.take, List.reverse, List.reverseAux, Int.toNat, Option.toList, List.append, List.cons_append, List.nil_append, zg302, zg304, zg305]
      have c65 : (Int32.ofInt 39).toInt = 39 := by decide
      refine ⟨fun h66 => ?_, fun h66 => ?_⟩
      · have g66 := (eqI (x := r54) (y := (Int32.ofInt 39)) h66 : (r54 : Int32).toInt = ((Int32.ofInt 39) : Int32).toInt)
        refine hB _ _ _ _ _ (fun m67 hm67 => ?_)
        dsimp only [ucgo, ucwp, ucsC, uqC, uoC, ctC, rfd, KX9_cutCharacter, KX9_cutCharacter_0, KX9_cutCharacter_14, KX9_cutCharacter_20, KX9_cutCharacter_26, KX9_cutCharacter_32, KX9_cutCharacter_44, KX9_cutCharacter_46, lkC, s1C, s2C, dlC, kyC, Nat.beq, Nat.ble, rcd, rno, rsw, Nat.reduceAdd, Nat.reduceBEq, Nat.reduceDiv, List.drop, List.take, List.reverse, List.reverseAux, Int.toNat, Option.toList, List.append, List.cons_append, List.nil_append, zg302, zg304, zg305]
        have c68 : (Int32.ofInt 0).toInt = 0 := by decide
        try dsimp only [Qz_cutCharacter]
        intro rr e9
        cases e9
        exact ⟨LwC.rf, fun q => absurd q (by decide)⟩
      · have g66 := (neI (x := r54) (y := (Int32.ofInt 39)) h66 : ¬ (r54 : Int32).toInt = ((Int32.ofInt 39) : Int32).toInt)
        refine hB _ _ _ _ _ (fun m69 hm69 => ?_)
        dsimp only [ucgo, ucwp, ucsC, uqC, uoC, ctC, rfd, KX9_cutCharacter, KX9_cutCharacter_0, KX9_cutCharacter_14, KX9_cutCharacter_20, KX9_cutCharacter_26, KX9_cutCharacter_32, KX9_cutCharacter_44, KX9_cutCharacter_46, lkC, s1C, s2C, dlC, kyC, Nat.beq, Nat.ble, rcd, rno, rsw, Nat.reduceAdd, Nat.reduceBEq, Nat.reduceDiv, List.drop, List.take, List.reverse, List.reverseAux, Int.toNat, Option.toList, List.append, List.cons_append, List.nil_append, zg302, zg304, zg305]
        have c70 : (Int32.ofInt 92).toInt = 92 := by decide
        refine ⟨fun h71 => ?_, fun h71 => ?_⟩
        · have g71 := (eqI (x := r54) (y := (Int32.ofInt 92)) h71 : (r54 : Int32).toInt = ((Int32.ofInt 92) : Int32).toInt)
          refine hB _ _ _ _ _ (fun m72 hm72 => ?_)
          dsimp only [ucgo, ucwp, ucsC, uqC, uoC, ctC, rfd, KX9_cutCharacter, KX9_cutCharacter_0, KX9_cutCharacter_14, KX9_cutCharacter_20, KX9_cutCharacter_26, KX9_cutCharacter_32, KX9_cutCharacter_44, KX9_cutCharacter_46, lkC, s1C, s2C, dlC, kyC, Nat.beq, Nat.ble, rcd, rno, rsw, Nat.reduceAdd, Nat.reduceBEq, Nat.reduceDiv, List.drop, List.take, List.reverse, List.reverseAux, Int.toNat, Option.toList, List.append, List.cons_append, List.nil_append, zg302, zg304, zg305]
          have c73 : (Int32.ofInt 0).toInt = 0 := by decide
          try dsimp only [Qz_cutCharacter]
          intro rr e9
          cases e9
          exact ⟨LwC.rf, fun q => absurd q (by decide)⟩
        · have g71 := (neI (x := r54) (y := (Int32.ofInt 92)) h71 : ¬ (r54 : Int32).toInt = ((Int32.ofInt 92) : Int32).toInt)
          refine hB _ _ _ _ _ (fun m74 hm74 => ?_)
          dsimp only [ucgo, ucwp, ucsC, uqC, uoC, ctC, rfd, KX9_cutCharacter, KX9_cutCharacter_0, KX9_cutCharacter_14, KX9_cutCharacter_20, KX9_cutCharacter_26, KX9_cutCharacter_32, KX9_cutCharacter_44, KX9_cutCharacter_46, lkC, s1C, s2C, dlC, kyC, Nat.beq, Nat.ble, rcd, rno, rsw, Nat.reduceAdd, Nat.reduceBEq, Nat.reduceDiv, List.drop, List.take, List.reverse, List.reverseAux, Int.toNat, Option.toList, List.append, List.cons_append, List.nil_append, zg302, zg304, zg305]
          have c75 : (Int32.ofInt 2).toInt = 2 := by decide
          have u76 := tiC p1
          have a76 : (p1 + (Int32.ofInt 2)).toInt = p1.toInt + 2 := addC (by omega) (by omega) (by omega)
          intro w77 τ77 o77 q77
          obtain ⟨hb77, hu77⟩ : Q_X9_byteAt [.inr (.inr (some p0)), .inl (p1 + (Int32.ofInt 2))] σ w77 τ77 ∧ U_byteAt [.inr (.inr (some p0)), .inl (p1 + (Int32.ofInt 2))] σ w77 τ77 := o77.1.1
          obtain ⟨r77, rfl, rfl⟩ := hb77
          have b77 : r77.toInt = btY x (p1.toInt + 2) := (hu77 x hx r77 rfl).trans (by first | rfl | rw [show ((p1 + (Int32.ofInt 2)) : Int32).toInt = (p1.toInt + 2) from by omega])
          try dsimp only [Option.toList, List.cons_append, List.nil_append, s1C, s2C, dlC, kyC, Nat.beq, lkC, rcd, rno, rsw]
          have c78 : (Int32.ofInt 39).toInt = 39 := by decide
          refine ⟨fun h79 => ?_, fun h79 => ?_⟩
          · have g79 := (eqI (x := r77) (y := (Int32.ofInt 39)) h79 : (r77 : Int32).toInt = ((Int32.ofInt 39) : Int32).toInt)
            refine hB _ _ _ _ _ (fun m80 hm80 => ?_)
            dsimp only [ucgo, ucwp, ucsC, uqC, uoC, ctC, rfd, KX9_cutCharacter, KX9_cutCharacter_0, KX9_cutCharacter_14, KX9_cutCharacter_20, KX9_cutCharacter_26, KX9_cutCharacter_32, KX9_cutCharacter_44, KX9_cutCharacter_46, lkC, s1C, s2C, dlC, kyC, Nat.beq, Nat.ble, rcd, rno, rsw, Nat.reduceAdd, Nat.reduceBEq, Nat.reduceDiv, List.drop, List.take, List.reverse, List.reverseAux, Int.toNat, Option.toList, List.append, List.cons_append, List.nil_append, zg302, zg304, zg305]
            intro a81 e81 ob81
            cases e81
            intro a82 e82 ob82
            cases e82
            have f83 : (fIC σ p0 305).toInt = (c : Int) := hc
            have c84 : (Int32.ofInt 83).toInt = 83 := by decide
            intro a85 e85 t85 v85
            generalize hs85 : qIC σ a85 (upd (eIC σ a85) (fIC σ p0 305).toNatClampNeg (Int32.ofInt 83)) = s85
            have he85 : eLC s85 = eLC σ := by rw [← hs85]; exact rfl
            intro a86 e86 ob86
            cases e86
            intro a87 e87 ob87
            cases e87
            have f88 : (fIC s85 p0 305).toInt = (c : Int) := (by rw [← hs85]; exact hc)
            intro a89 e89 t89 v89
            obtain rfl : r = a89 := Option.some.inj ((show fRC s85 p0 304 = some r by rw [← hs85]; exact hr).symm.trans e89)
            generalize hs89 : qLC s85 r (vp_updL (eLC s85 r) (fIC s85 p0 305).toNatClampNeg r54.toInt64) = s89
            have hv89 := LwC.q (r := r) (c := c) (k := (fIC s85 p0 305).toNatClampNeg) (v := r54.toInt64) (σ := σ) (τ := s85) he85 (by rw [nT_toNat]; omega)
            rw [hs89] at hv89
            have c90 : (Int32.ofInt 3).toInt = 3 := by decide
            try dsimp only [Qz_cutCharacter]
            intro rr e9
            cases e9
            exact ⟨hv89.1, fun _ => by rw [hv89.2, Int32.toInt_toInt64]; exact b54⟩
          · have g79 := (neI (x := r77) (y := (Int32.ofInt 39)) h79 : ¬ (r77 : Int32).toInt = ((Int32.ofInt 39) : Int32).toInt)
            refine hB _ _ _ _ _ (fun m91 hm91 => ?_)
            dsimp only [ucgo, ucwp, ucsC, uqC, uoC, ctC, rfd, KX9_cutCharacter, KX9_cutCharacter_0, KX9_cutCharacter_14, KX9_cutCharacter_20, KX9_cutCharacter_26, KX9_cutCharacter_32, KX9_cutCharacter_44, KX9_cutCharacter_46, lkC, s1C, s2C, dlC, kyC, Nat.beq, Nat.ble, rcd, rno, rsw, Nat.reduceAdd, Nat.reduceBEq, Nat.reduceDiv, List.drop, List.take, List.reverse, List.reverseAux, Int.toNat, Option.toList, List.append, List.cons_append, List.nil_append, zg302, zg304, zg305]
            have c92 : (Int32.ofInt 0).toInt = 0 := by decide
            try dsimp only [Qz_cutCharacter]
            intro rr e9
            cases e9
            exact ⟨LwC.rf, fun q => absurd q (by decide)⟩
theorem wz_cutCharacter : ∀ (L : Nat) (As : List AvC) (σ : CsC) (w : Option AvC) (τ : CsC), EvF L 196 As σ w τ → Uz_cutCharacter As σ w τ := by
  intro L
  cases L with
  | zero => exact fun _ _ _ _ h => h.elim
  | succ L => exact fun As σ w τ h y hy => EvF.us (cs := [189]) (pz_cutCharacter y) rfl (List.forall_mem_cons.2 ⟨fun _ _ _ _ _ => trivial, fun _ h => absurd h List.not_mem_nil⟩) h hy
abbrev Pz_cutNumber : ((Int → Int) × (Nat → Nat) × (Nat → Nat) × (Nat → Nat) × (Nat → Nat) × ZS × TxY × Nat × Nat) → CpC := fun y As σ => match y with
  | (N, E, A, B, V, z, x, r, c) => ∃ (p0 : Nat) (p1 : Int32), As = [.inr (.inr (some p0)), .inl p1] ∧ (fRC σ p0 304 = some r) ∧ ((fIC σ p0 305).toInt = (c : Int)) ∧ (TxC σ p0 x) ∧ (0 ≤ p1.toInt ∧ p1.toInt < x.2)
abbrev Qz_cutNumber : ((Int → Int) × (Nat → Nat) × (Nat → Nat) × (Nat → Nat) × (Nat → Nat) × ZS × TxY × Nat × Nat) → CqC := fun y As σ w τ => match y, As with
  | (N, E, A, B, V, z, x, r, c), [.inr (.inr (some p0)), .inl p1] => ∀ rr, w = some (.inl rr) → LwC r c σ τ ∧ (0 < rr.toInt → eLC τ r c = Int64.ofInt (nvY x (x.2 - p1.toInt).toNat p1.toInt 0))
  | _, _ => True
abbrev Uz_cutNumber : CqC := fun As σ w τ => ∀ y, Pz_cutNumber y As σ → Qz_cutNumber y As σ w τ
set_option maxHeartbeats 4000000 in
theorem pz_cutNumber (y : (Int → Int) × (Nat → Nat) × (Nat → Nat) × (Nat → Nat) × (Nat → Nat) × ZS × TxY × Nat × Nat) : PbC KX9_cutNumber [(189, TrP, EqC 189), (193, TrP, EqC 193)] [] (fun As σ => Pz_cutNumber y As σ ∧ cnC σ ≤ 1000000 ∧ ∃ w τ, uqC quL 195 As σ w τ) (Qz_cutNumber y) := by
  obtain ⟨N, E, A, B, V, z, x, r, c⟩ := y
  rintro As σ ⟨⟨p0, p1, rfl, hr, hc, hx, hp⟩, hcn, _, _, hQ⟩ K hB hW n_
  have hx3 := hx.2.2.2.2
  have hx1 := hx.1
  have t45 : ∀ (n : Nat) (i : Int32) (v : Int64), p1.toInt ≤ i.toInt → i.toInt ≤ x.2 → v = Int64.ofInt (nvY x (x.2 - p1.toInt).toNat p1.toInt 0) → K n 45 [(0, .inr (.inr (some p0))), (1, .inl p1), (2, .inl i), (3, .inr (.inl v))] [] σ := by
    intro n i v hi0 hi1 hv
    refine hB _ _ _ _ _ (fun m51 hm51 => ?_)
    dsimp only [ucgo, ucwp, ucsC, uqC, uoC, ctC, rfd, KX9_cutNumber, KX9_cutNumber_0, KX9_cutNumber_4, KX9_cutNumber_12, KX9_cutNumber_23, KX9_cutNumber_45, KX9_cutNumber_53, KX9_cutNumber_55, KX9_cutNumber_86, KX9_cutNumber_100, lkC, s1C, s2C, dlC, kyC, Nat.beq, Nat.ble, rcd, rno, rsw, Nat.reduceAdd, Nat.reduceBEq, Nat.reduceDiv, List.drop, List.take, List.reverse, List.reverseAux, Int.toNat, Option.toList, List.append, List.cons_append, List.nil_append, zg302, zg304, zg305, zg308]
    have u52 := tiC i
    have a52 : (i - p1).toInt = i.toInt - p1.toInt := subC (by omega) (by omega) (by omega)
    have c53 : (Int32.ofInt 19).toInt = 19 := by decide
    refine ⟨fun h54 => ?_, fun h54 => ?_⟩
    · have g54 := leI (x := (i - p1)) (y := (Int32.ofInt 19)) h54
      refine hB _ _ _ _ _ (fun m55 hm55 => ?_)
      dsimp only [ucgo, ucwp, ucsC, uqC, uoC, ctC, rfd, KX9_cutNumber, KX9_cutNumber_0, KX9_cutNumber_4, KX9_cutNumber_12, KX9_cutNumber_23, KX9_cutNumber_45, KX9_cutNumber_53, KX9_cutNumber_55, KX9_cutNumber_86, KX9_cutNumber_100, lkC, s1C, s2C, dlC, kyC, Nat.beq, Nat.ble, rcd, rno, rsw, Nat.reduceAdd, Nat.reduceBEq, Nat.reduceDiv, List.drop, List.take, List.reverse, List.reverseAux, Int.toNat, Option.toList, List.append, List.cons_append, List.nil_append, zg302, zg304, zg305, zg308]
      intro a56 e56 ob56
      cases e56
      intro a57 e57 ob57
      cases e57
      have f58 : (fIC σ p0 305).toInt = (c : Int) := hc
      intro a59 e59 t59 v59
      obtain rfl : r = a59 := Option.some.inj (hr.symm.trans e59)
      generalize hs59 : qLC σ r (vp_updL (eLC σ r) (fIC σ p0 305).toNatClampNeg v) = s59
      have hv59 := LwC.q (r := r) (c := c) (k := (fIC σ p0 305).toNatClampNeg) (v := v) (σ := σ) (τ := σ) rfl (by rw [nT_toNat]; omega)
      rw [hs59] at hv59
      intro a60 e60 ob60
      cases e60
      intro a61 e61 ob61
      cases e61
      have f62 : (fIC s59 p0 305).toInt = (c : Int) := (by rw [← hs59]; exact hc)
      have c63 : (Int32.ofInt 81).toInt = 81 := by decide
      intro a64 e64 t64 v64
      generalize hs64 : qIC s59 a64 (upd (eIC s59 a64) (fIC s59 p0 305).toNatClampNeg (Int32.ofInt 81)) = s64
      have hv64 : LwC r c σ s64 ∧ eLC s64 r c = v := by rw [← hs64]; exact hv59
      intro w65 τ65 o65 q65
      obtain ⟨hb65, -⟩ : Q_X9_byteAt [.inr (.inr (some p0)), .inl i] s64 w65 τ65 ∧ U_byteAt [.inr (.inr (some p0)), .inl i] s64 w65 τ65 := o65.1.1
      obtain ⟨r65, rfl, rfl⟩ := hb65
      try dsimp only [Option.toList, List.cons_append, List.nil_append, s1C, s2C, dlC, kyC, Nat.beq, lkC, rcd, rno, rsw]
      have c66 : (Int32.ofInt 76).toInt = 76 := by decide
      refine ⟨fun h67 => ?_, fun h67 => ?_⟩
      · have g67 := (neI (x := r65) (y := (Int32.ofInt 76)) h67 : ¬ (r65 : Int32).toInt = ((Int32.ofInt 76) : Int32).toInt)
        refine hB _ _ _ _ _ (fun m68 hm68 => ?_)
        dsimp only [ucgo, ucwp, ucsC, uqC, uoC, ctC, rfd, KX9_cutNumber, KX9_cutNumber_0, KX9_cutNumber_4, KX9_cutNumber_12, KX9_cutNumber_23, KX9_cutNumber_45, KX9_cutNumber_53, KX9_cutNumber_55, KX9_cutNumber_86, KX9_cutNumber_100, lkC, s1C, s2C, dlC, kyC, Nat.beq, Nat.ble, rcd, rno, rsw, Nat.reduceAdd, Nat.reduceBEq, Nat.reduceDiv, List.drop, List.take, List.reverse, List.reverseAux, Int.toNat, Option.toList, List.append, List.cons_append, List.nil_append, zg302, zg304, zg305, zg308]
        have u69 := tiC i
        have a69 : (i - p1).toInt = i.toInt - p1.toInt := subC (by omega) (by omega) (by omega)
        try dsimp only [Qz_cutNumber]
        intro rr e9
        cases e9
        exact ⟨hv64.1, fun _ => by rw [hv64.2, hv]⟩
      · have g67 := (eqI (x := r65) (y := (Int32.ofInt 76)) h67 : (r65 : Int32).toInt = ((Int32.ofInt 76) : Int32).toInt)
        refine hB _ _ _ _ _ (fun m70 hm70 => ?_)
        dsimp only [ucgo, ucwp, ucsC, uqC, uoC, ctC, rfd, KX9_cutNumber, KX9_cutNumber_0, KX9_cutNumber_4, KX9_cutNumber_12, KX9_cutNumber_23, KX9_cutNumber_45, KX9_cutNumber_53, KX9_cutNumber_55, KX9_cutNumber_86, KX9_cutNumber_100, lkC, s1C, s2C, dlC, kyC, Nat.beq, Nat.ble, rcd, rno, rsw, Nat.reduceAdd, Nat.reduceBEq, Nat.reduceDiv, List.drop, List.take, List.reverse, List.reverseAux, Int.toNat, Option.toList, List.append, List.cons_append, List.nil_append, zg302, zg304, zg305, zg308]
        intro a71 e71 ob71
        cases e71
        intro a72 e72 ob72
        cases e72
        have f73 : (fIC s64 p0 305).toInt = (c : Int) := (by rw [← hs64]; exact (by rw [← hs59]; exact hc))
        have c74 : (Int32.ofInt 82).toInt = 82 := by decide
        intro a75 e75 t75 v75
        generalize hs75 : qIC s64 a75 (upd (eIC s64 a75) (fIC s64 p0 305).toNatClampNeg (Int32.ofInt 82)) = s75
        have hv75 : LwC r c σ s75 ∧ eLC s75 r c = v := by rw [← hs75]; exact hv64
        have c76 : (Int32.ofInt 1).toInt = 1 := by decide
        have u77 := tiC i
        have a77 : (i + (Int32.ofInt 1)).toInt = i.toInt + 1 := addC (by omega) (by omega) (by omega)
        refine hB _ _ _ _ _ (fun m78 hm78 => ?_)
        dsimp only [ucgo, ucwp, ucsC, uqC, uoC, ctC, rfd, KX9_cutNumber, KX9_cutNumber_0, KX9_cutNumber_4, KX9_cutNumber_12, KX9_cutNumber_23, KX9_cutNumber_45, KX9_cutNumber_53, KX9_cutNumber_55, KX9_cutNumber_86, KX9_cutNumber_100, lkC, s1C, s2C, dlC, kyC, Nat.beq, Nat.ble, rcd, rno, rsw, Nat.reduceAdd, Nat.reduceBEq, Nat.reduceDiv, List.drop, List.take, List.reverse, List.reverseAux, Int.toNat, Option.toList, List.append, List.cons_append, List.nil_append, zg302, zg304, zg305, zg308]
        have u79 := tiC (i + (Int32.ofInt 1))
        have a79 : ((i + (Int32.ofInt 1)) - p1).toInt = (i.toInt + 1) - p1.toInt := subC (by omega) (by omega) (by omega)
        try dsimp only [Qz_cutNumber]
        intro rr e9
        cases e9
        exact ⟨hv75.1, fun _ => by rw [hv75.2, hv]⟩
    · have g54 := nleI (x := (i - p1)) (y := (Int32.ofInt 19)) h54
      refine hB _ _ _ _ _ (fun m80 hm80 => ?_)
      dsimp only [ucgo, ucwp, ucsC, uqC, uoC, ctC, rfd, KX9_cutNumber, KX9_cutNumber_0, KX9_cutNumber_4, KX9_cutNumber_12, KX9_cutNumber_23, KX9_cutNumber_45, KX9_cutNumber_53, KX9_cutNumber_55, KX9_cutNumber_86, KX9_cutNumber_100, lkC, s1C, s2C, dlC, kyC, Nat.beq, Nat.ble, rcd, rno, rsw, Nat.reduceAdd, Nat.reduceBEq, Nat.reduceDiv, List.drop, List.take, List.reverse, List.reverseAux, Int.toNat, Option.toList, List.append, List.cons_append, List.nil_append, zg302, zg304, zg305, zg308]
      have c81 : (Int32.ofInt 0).toInt = 0 := by decide
      try dsimp only [Qz_cutNumber]
      intro rr e9
      cases e9
      exact ⟨LwC.rf, fun q => absurd q (by decide)⟩
  have L4 : ∀ (n : Nat) (i : Int32) (v : Int64) (y : Int), p1.toInt ≤ i.toInt → i.toInt ≤ x.2 → v = Int64.ofInt y → nvY x (x.2 - i.toInt).toNat i.toInt y = nvY x (x.2 - p1.toInt).toNat p1.toInt 0 → K n 4 [(0, .inr (.inr (some p0))), (1, .inl p1), (2, .inl i), (3, .inr (.inl v))] [] σ := by
    intro n
    induction n using Nat.strongRecOn with
    | _ n ih =>
      intro i v y hi0 hi1 hv hb
      refine hB _ _ _ _ _ (fun m101 hm101 => ?_)
      dsimp only [ucgo, ucwp, ucsC, uqC, uoC, ctC, rfd, KX9_cutNumber, KX9_cutNumber_0, KX9_cutNumber_4, KX9_cutNumber_12, KX9_cutNumber_23, KX9_cutNumber_45, KX9_cutNumber_53, KX9_cutNumber_55, KX9_cutNumber_86, KX9_cutNumber_100, lkC, s1C, s2C, dlC, kyC, Nat.beq, Nat.ble, rcd, rno, rsw, Nat.reduceAdd, Nat.reduceBEq, Nat.reduceDiv, List.drop, List.take, List.reverse, List.reverseAux, Int.toNat, Option.toList, List.append, List.cons_append, List.nil_append, zg302, zg304, zg305, zg308]
      intro a102 e102 ob102
      cases e102
      have f103 : (fIC σ p0 308).toInt = x.2 := hx.1
      refine ⟨fun h104 => ?_, fun h104 => ?_⟩
      · have g104 := leI (x := (fIC σ p0 308)) (y := i) h104
        refine hW _ 45 [(0, .inr (.inr (some p0))), (1, .inl p1), (2, .inl i), (3, .inr (.inl v))] _ _ _ (List.forall_mem_cons.2 ⟨List.Mem.head _, List.forall_mem_cons.2 ⟨List.Mem.tail _ (List.Mem.head _), List.forall_mem_cons.2 ⟨List.Mem.tail _ (List.Mem.tail _ (List.Mem.head _)), List.forall_mem_cons.2 ⟨List.Mem.tail _ (List.Mem.tail _ (List.Mem.tail _ (List.Mem.head _))), fun _ h => absurd h List.not_mem_nil⟩⟩⟩⟩) (t45 _ i v hi0 hi1 ?_)
        rw [hv]
        first
          | (rw [fu_z (x := x) (i := i.toInt) (by omega)] at hb; rw [← hb]; rfl)
          | (rw [nv_no (show ¬ (48 ≤ _ ∧ _ ≤ 57) by omega)] at hb; rw [hb])
      · have g104 := nleI (x := (fIC σ p0 308)) (y := i) h104
        refine hB _ _ _ _ _ (fun m105 hm105 => ?_)
        dsimp only [ucgo, ucwp, ucsC, uqC, uoC, ctC, rfd, KX9_cutNumber, KX9_cutNumber_0, KX9_cutNumber_4, KX9_cutNumber_12, KX9_cutNumber_23, KX9_cutNumber_45, KX9_cutNumber_53, KX9_cutNumber_55, KX9_cutNumber_86, KX9_cutNumber_100, lkC, s1C, s2C, dlC, kyC, Nat.beq, Nat.ble, rcd, rno, rsw, Nat.reduceAdd, Nat.reduceBEq, Nat.reduceDiv, List.drop, List.take, List.reverse, List.reverseAux, Int.toNat, Option.toList, List.append, List.cons_append, List.nil_append, zg302, zg304, zg305, zg308]
        intro w106 τ106 o106 q106
        obtain ⟨hb106, hu106⟩ : Q_X9_byteAt [.inr (.inr (some p0)), .inl i] σ w106 τ106 ∧ U_byteAt [.inr (.inr (some p0)), .inl i] σ w106 τ106 := o106.1.1
        obtain ⟨r106, rfl, rfl⟩ := hb106
        have b106 : r106.toInt = btY x i.toInt := (hu106 x hx r106 rfl).trans (by first | rfl | rw [show (i : Int32).toInt = i.toInt from by omega])
        try dsimp only [Option.toList, List.cons_append, List.nil_append, s1C, s2C, dlC, kyC, Nat.beq, lkC, rcd, rno, rsw]
        intro w107 τ107 o107 q107
        obtain ⟨hb107, hu107⟩ : Q_X9_isDigit [.inl r106] σ w107 τ107 ∧ U_isDigit [.inl r106] σ w107 τ107 := o107.1.1
        obtain ⟨r107, rfl, rfl, -, -⟩ := hb107
        have d107 := digI (hu107 () trivial r107 rfl)
        try dsimp only [Option.toList, List.cons_append, List.nil_append, s1C, s2C, dlC, kyC, Nat.beq, lkC, rcd, rno, rsw]
        refine ⟨fun h108 => ?_, fun h108 => ?_⟩
        · have g108 := (eqI (x := r107) (y := 0) h108 : (r107 : Int32).toInt = (0 : Int32).toInt)
          have z0_ : (0 : Int32).toInt = 0 := rfl
          refine hW _ 45 [(0, .inr (.inr (some p0))), (1, .inl p1), (2, .inl i), (3, .inr (.inl v))] _ _ _ (List.forall_mem_cons.2 ⟨List.Mem.head _, List.forall_mem_cons.2 ⟨List.Mem.tail _ (List.Mem.head _), List.forall_mem_cons.2 ⟨List.Mem.tail _ (List.Mem.tail _ (List.Mem.head _)), List.forall_mem_cons.2 ⟨List.Mem.tail _ (List.Mem.tail _ (List.Mem.tail _ (List.Mem.head _))), fun _ h => absurd h List.not_mem_nil⟩⟩⟩⟩) (t45 _ i v hi0 hi1 ?_)
          rw [hv]
          first
            | (rw [fu_z (x := x) (i := i.toInt) (by omega)] at hb; rw [← hb]; rfl)
            | (rw [nv_no (show ¬ (48 ≤ _ ∧ _ ≤ 57) by omega)] at hb; rw [hb])
        · have g108 := (neI (x := r107) (y := 0) h108 : ¬ (r107 : Int32).toInt = (0 : Int32).toInt)
          have z0_ : (0 : Int32).toInt = 0 := rfl
          refine hB _ _ _ _ _ (fun m109 hm109 => ?_)
          dsimp only [ucgo, ucwp, ucsC, uqC, uoC, ctC, rfd, KX9_cutNumber, KX9_cutNumber_0, KX9_cutNumber_4, KX9_cutNumber_12, KX9_cutNumber_23, KX9_cutNumber_45, KX9_cutNumber_53, KX9_cutNumber_55, KX9_cutNumber_86, KX9_cutNumber_100, lkC, s1C, s2C, dlC, kyC, Nat.beq, Nat.ble, rcd, rno, rsw, Nat.reduceAdd, Nat.reduceBEq, Nat.reduceDiv, List.drop, List.take, List.reverse, List.reverseAux, Int.toNat, Option.toList, List.append, List.cons_append, List.nil_append, zg302, zg304, zg305, zg308]
          intro w110 τ110 o110 q110
          obtain ⟨hb110, hu110⟩ : Q_X9_byteAt [.inr (.inr (some p0)), .inl i] σ w110 τ110 ∧ U_byteAt [.inr (.inr (some p0)), .inl i] σ w110 τ110 := o110.1.1
          obtain ⟨r110, rfl, rfl⟩ := hb110
          have b110 : r110.toInt = btY x i.toInt := (hu110 x hx r110 rfl).trans (by first | rfl | rw [show (i : Int32).toInt = i.toInt from by omega])
          try dsimp only [Option.toList, List.cons_append, List.nil_append, s1C, s2C, dlC, kyC, Nat.beq, lkC, rcd, rno, rsw]
          have c111 : (Int32.ofInt 48).toInt = 48 := by decide
          have u112 := tiC r110
          have a112 : (r110 - (Int32.ofInt 48)).toInt = (btY x i.toInt) - 48 := subC (by omega) (by omega) (by omega)
          have c113 : (Int32.ofInt 1).toInt = 1 := by decide
          have u114 := tiC i
          have a114 : (i + (Int32.ofInt 1)).toInt = i.toInt + 1 := addC (by omega) (by omega) (by omega)
          refine hW _ 4 [(0, .inr (.inr (some p0))), (1, .inl p1), (2, .inl (i + (Int32.ofInt 1))), (3, .inr (.inl ((v * (Int64.ofInt 10)) + (r110 - (Int32.ofInt 48)).toInt64)))] _ _ _ (List.forall_mem_cons.2 ⟨List.Mem.tail _ (List.Mem.tail _ (List.Mem.head _)), List.forall_mem_cons.2 ⟨List.Mem.tail _ (List.Mem.tail _ (List.Mem.tail _ (List.Mem.head _))), List.forall_mem_cons.2 ⟨List.Mem.head _, List.forall_mem_cons.2 ⟨List.Mem.tail _ (List.Mem.head _), fun _ h => absurd h List.not_mem_nil⟩⟩⟩⟩) (ih _ (by omega) (i + (Int32.ofInt 1)) ((v * (Int64.ofInt 10)) + (r110 - (Int32.ofInt 48)).toInt64) (10 * y + (btY x i.toInt - 48)) (by omega) (by omega) ?_ ?_)
          · rw [hv, Int64.mul_comm, i64_10]
            exact congrArg Int64.ofInt (by omega)
          · rw [show ((i + (Int32.ofInt 1)) : Int32).toInt = i.toInt + 1 from by omega, ← nv_go (by omega) (show 48 ≤ _ ∧ _ ≤ 57 by omega)]
            exact hb
  change K n_ 0 [(0, .inr (.inr (some p0))), (1, .inl p1)] [] σ
  refine hB _ _ _ _ _ (fun m201 hm201 => ?_)
  dsimp only [ucgo, ucwp, ucsC, uqC, uoC, ctC, rfd, KX9_cutNumber, KX9_cutNumber_0, KX9_cutNumber_4, KX9_cutNumber_12, KX9_cutNumber_23, KX9_cutNumber_45, KX9_cutNumber_53, KX9_cutNumber_55, KX9_cutNumber_86, KX9_cutNumber_100, lkC, s1C, s2C, dlC, kyC, Nat.beq, Nat.ble, rcd, rno, rsw, Nat.reduceAdd, Nat.reduceBEq, Nat.reduceDiv, List.drop, List.take, List.reverse, List.reverseAux, Int.toNat, Option.toList, List.append, List.cons_append, List.nil_append, zg302, zg304, zg305, zg308]
  exact hW _ 4 [(0, .inr (.inr (some p0))), (1, .inl p1), (2, .inl p1), (3, .inr (.inl (Int64.ofNat ((0 : Fin 2) : Nat))))] _ _ _ (List.forall_mem_cons.2 ⟨List.Mem.tail _ (List.Mem.tail _ (List.Mem.head _)), List.forall_mem_cons.2 ⟨List.Mem.tail _ (List.Mem.tail _ (List.Mem.tail _ (List.Mem.head _))), List.forall_mem_cons.2 ⟨List.Mem.tail _ (List.Mem.head _), List.forall_mem_cons.2 ⟨List.Mem.head _, fun _ h => absurd h List.not_mem_nil⟩⟩⟩⟩) (L4 _ p1 _ 0 (Int.le_refl _) (by omega) rfl rfl)
theorem wz_cutNumber : ∀ (L : Nat) (As : List AvC) (σ : CsC) (w : Option AvC) (τ : CsC), EvF L 195 As σ w τ → Uz_cutNumber As σ w τ := by
  intro L
  cases L with
  | zero => exact fun _ _ _ _ h => h.elim
  | succ L => exact fun As σ w τ h y hy => EvF.us (cs := [189, 193]) (pz_cutNumber y) rfl (List.forall_mem_cons.2 ⟨fun _ _ _ _ _ => trivial, List.forall_mem_cons.2 ⟨fun _ _ _ _ _ => trivial, fun _ h => absurd h List.not_mem_nil⟩⟩) h hy
abbrev Pz_cutName : ((Int → Int) × (Nat → Nat) × (Nat → Nat) × (Nat → Nat) × (Nat → Nat) × ZS × TxY × Nat × Nat) → CpC := fun y As σ => match y with
  | (N, E, A, B, V, z, x, r, c) => ∃ (p0 : Nat) (p1 : Int32), As = [.inr (.inr (some p0)), .inl p1] ∧ (fRC σ p0 304 = some r) ∧ ((fIC σ p0 305).toInt = (c : Int)) ∧ (TxC σ p0 x) ∧ (0 ≤ p1.toInt ∧ p1.toInt < x.2)
abbrev Qz_cutName : ((Int → Int) × (Nat → Nat) × (Nat → Nat) × (Nat → Nat) × (Nat → Nat) × ZS × TxY × Nat × Nat) → CqC := fun y As σ w τ => match y, As with
  | (N, E, A, B, V, z, x, r, c), [.inr (.inr (some p0)), .inl p1] => ∀ rr, w = some (.inl rr) → LwC r c σ τ ∧ (0 < rr.toInt → (eLC τ r c).toInt = kyY (naY x p1.toInt).2)
  | _, _ => True
abbrev Uz_cutName : CqC := fun As σ w τ => ∀ y, Pz_cutName y As σ → Qz_cutName y As σ w τ
set_option maxHeartbeats 4000000 in
theorem pz_cutName (y : (Int → Int) × (Nat → Nat) × (Nat → Nat) × (Nat → Nat) × (Nat → Nat) × ZS × TxY × Nat × Nat) : PbC KX9_cutName [(189, TrP, EqC 189), (192, TrP, EqC 192), (185, TrP, EqC 185), (193, TrP, EqC 193)] [] (fun As σ => Pz_cutName y As σ ∧ cnC σ ≤ 1000000 ∧ ∃ w τ, uqC quL 194 As σ w τ) (Qz_cutName y) := by
  obtain ⟨N, E, A, B, V, z, x, r, c⟩ := y
  rintro As σ ⟨⟨p0, p1, rfl, hr, hc, hx, hp⟩, hcn, _, _, hQ⟩ K hB hW n_
  have hx3 := hx.2.2.2.2
  have hx1 := hx.1
  have L84 : ∀ (n : Nat) (i : Int32) (v : Int64) (υ : CsC) (j : Int32), (p1.toInt ≤ i.toInt ∧ i.toInt ≤ x.2) → (0 ≤ j.toInt ∧ j.toInt ≤ 24) → (LwC r c σ υ ∧ (eLC υ r c).toInt = kyY (naY x p1.toInt).2) → K n 84 [(0, .inr (.inr (some p0))), (1, .inl p1), (2, .inl i), (3, .inr (.inl v)), (5, .inl j)] [] υ := by
    intro n i v
    induction n using Nat.strongRecOn with
    | _ n ih =>
      intro υ j hii hjj hl
      refine hB _ _ _ _ _ (fun m301 hm301 => ?_)
      dsimp only [ucgo, ucwp, ucsC, uqC, uoC, ctC, rfd, KX9_cutName, KX9_cutName_0, KX9_cutName_4, KX9_cutName_12, KX9_cutName_23, KX9_cutName_34, KX9_cutName_50, KX9_cutName_58, KX9_cutName_60, KX9_cutName_84, KX9_cutName_91, KX9_cutName_103, KX9_cutName_117, KX9_cutName_123, lkC, s1C, s2C, dlC, kyC, Nat.beq, Nat.ble, rcd, rno, rsw, Nat.reduceAdd, Nat.reduceBEq, Nat.reduceDiv, List.drop, List.take, List.reverse, List.reverseAux, Int.toNat, Option.toList, List.append, List.cons_append, List.nil_append, zg302, zg304, zg305, zg306, zg308]
      have c302 : (Int32.ofInt 24).toInt = 24 := by decide
      refine ⟨fun h303 => ?_, fun h303 => ?_⟩
      · have g303 := leI (x := (Int32.ofInt 24)) (y := j) h303
        refine hB _ _ _ _ _ (fun m304 hm304 => ?_)
        dsimp only [ucgo, ucwp, ucsC, uqC, uoC, ctC, rfd, KX9_cutName, KX9_cutName_0, KX9_cutName_4, KX9_cutName_12, KX9_cutName_23, KX9_cutName_34, KX9_cutName_50, KX9_cutName_58, KX9_cutName_60, KX9_cutName_84, KX9_cutName_91, KX9_cutName_103, KX9_cutName_117, KX9_cutName_123, lkC, s1C, s2C, dlC, kyC, Nat.beq, Nat.ble, rcd, rno, rsw, Nat.reduceAdd, Nat.reduceBEq, Nat.reduceDiv, List.drop, List.take, List.reverse, List.reverseAux, Int.toNat, Option.toList, List.append, List.cons_append, List.nil_append, zg302, zg304, zg305, zg306, zg308]
        have u305 := tiC i
        have a305 : (i - p1).toInt = i.toInt - p1.toInt := subC (by omega) (by omega) (by omega)
        try dsimp only [Qz_cutName]
        intro rr e9
        cases e9
        exact ⟨hl.1, fun _ => hl.2⟩
      · have g303 := nleI (x := (Int32.ofInt 24)) (y := j) h303
        refine hB _ _ _ _ _ (fun m306 hm306 => ?_)
        dsimp only [ucgo, ucwp, ucsC, uqC, uoC, ctC, rfd, KX9_cutName, KX9_cutName_0, KX9_cutName_4, KX9_cutName_12, KX9_cutName_23, KX9_cutName_34, KX9_cutName_50, KX9_cutName_58, KX9_cutName_60, KX9_cutName_84, KX9_cutName_91, KX9_cutName_103, KX9_cutName_117, KX9_cutName_123, lkC, s1C, s2C, dlC, kyC, Nat.beq, Nat.ble, rcd, rno, rsw, Nat.reduceAdd, Nat.reduceBEq, Nat.reduceDiv, List.drop, List.take, List.reverse, List.reverseAux, Int.toNat, Option.toList, List.append, List.cons_append, List.nil_append, zg302, zg304, zg305, zg306, zg308]
        intro a307 e307 ob307
        cases e307
        intro a308 e308 t308 v308
        have lc309 : (lg_cmp (eLC υ a308 j.toNatClampNeg) v).toInt = 0 → (eLC υ a308 j.toNatClampNeg) = v := lcmpC
        have ld309 : (eLC υ a308 j.toNatClampNeg) = v → (lg_cmp (eLC υ a308 j.toNatClampNeg) v).toInt = 0 := fun e => by rw [e]; exact lcmp0
        refine ⟨fun h310 => ?_, fun h310 => ?_⟩
        · have g310 := (neI (x := (lg_cmp (eLC υ a308 j.toNatClampNeg) v)) (y := 0) h310 : ¬ ((lg_cmp (eLC υ a308 j.toNatClampNeg) v) : Int32).toInt = (0 : Int32).toInt)
          have z0_ : (0 : Int32).toInt = 0 := rfl
          refine hB _ _ _ _ _ (fun m311 hm311 => ?_)
          dsimp only [ucgo, ucwp, ucsC, uqC, uoC, ctC, rfd, KX9_cutName, KX9_cutName_0, KX9_cutName_4, KX9_cutName_12, KX9_cutName_23, KX9_cutName_34, KX9_cutName_50, KX9_cutName_58, KX9_cutName_60, KX9_cutName_84, KX9_cutName_91, KX9_cutName_103, KX9_cutName_117, KX9_cutName_123, lkC, s1C, s2C, dlC, kyC, Nat.beq, Nat.ble, rcd, rno, rsw, Nat.reduceAdd, Nat.reduceBEq, Nat.reduceDiv, List.drop, List.take, List.reverse, List.reverseAux, Int.toNat, Option.toList, List.append, List.cons_append, List.nil_append, zg302, zg304, zg305, zg306, zg308]
          have c312 : (Int32.ofInt 1).toInt = 1 := by decide
          have u313 := tiC j
          have a313 : (j + (Int32.ofInt 1)).toInt = j.toInt + 1 := addC (by omega) (by omega) (by omega)
          exact hW _ 84 [(0, .inr (.inr (some p0))), (1, .inl p1), (2, .inl i), (3, .inr (.inl v)), (5, .inl (j + (Int32.ofInt 1)))] _ _ _ (List.forall_mem_cons.2 ⟨List.Mem.tail _ (List.Mem.head _), List.forall_mem_cons.2 ⟨List.Mem.tail _ (List.Mem.tail _ (List.Mem.head _)), List.forall_mem_cons.2 ⟨List.Mem.tail _ (List.Mem.tail _ (List.Mem.tail _ (List.Mem.head _))), List.forall_mem_cons.2 ⟨List.Mem.tail _ (List.Mem.tail _ (List.Mem.tail _ (List.Mem.tail _ (List.Mem.head _)))), List.forall_mem_cons.2 ⟨List.Mem.head _, fun _ h => absurd h List.not_mem_nil⟩⟩⟩⟩⟩) (ih _ (by omega) _ _ hii (by omega) hl)
        · have g310 := (eqI (x := (lg_cmp (eLC υ a308 j.toNatClampNeg) v)) (y := 0) h310 : ((lg_cmp (eLC υ a308 j.toNatClampNeg) v) : Int32).toInt = (0 : Int32).toInt)
          have z0_ : (0 : Int32).toInt = 0 := rfl
          refine hB _ _ _ _ _ (fun m314 hm314 => ?_)
          dsimp only [ucgo, ucwp, ucsC, uqC, uoC, ctC, rfd, KX9_cutName, KX9_cutName_0, KX9_cutName_4, KX9_cutName_12, KX9_cutName_23, KX9_cutName_34, KX9_cutName_50, KX9_cutName_58, KX9_cutName_60, KX9_cutName_84, KX9_cutName_91, KX9_cutName_103, KX9_cutName_117, KX9_cutName_123, lkC, s1C, s2C, dlC, kyC, Nat.beq, Nat.ble, rcd, rno, rsw, Nat.reduceAdd, Nat.reduceBEq, Nat.reduceDiv, List.drop, List.take, List.reverse, List.reverseAux, Int.toNat, Option.toList, List.append, List.cons_append, List.nil_append, zg302, zg304, zg305, zg306, zg308]
          intro a315 e315 ob315
          cases e315
          intro a316 e316 ob316
          cases e316
          have c317 : (Int32.ofInt 50).toInt = 50 := by decide
          have u318 := tiC (Int32.ofInt 50)
          have a318 : ((Int32.ofInt 50) + j).toInt = 50 + j.toInt := addC (by omega) (by omega) (by omega)
          intro a319 e319 t319 v319
          generalize hs319 : qIC υ a319 (upd (eIC υ a319) (fIC υ p0 305).toNatClampNeg ((Int32.ofInt 50) + j)) = s319
          have hl319 : LwC r c σ s319 ∧ (eLC s319 r c).toInt = kyY (naY x p1.toInt).2 := by rw [← hs319]; exact hl
          refine hB _ _ _ _ _ (fun m320 hm320 => ?_)
          dsimp only [ucgo, ucwp, ucsC, uqC, uoC, ctC, rfd, KX9_cutName, KX9_cutName_0, KX9_cutName_4, KX9_cutName_12, KX9_cutName_23, KX9_cutName_34, KX9_cutName_50, KX9_cutName_58, KX9_cutName_60, KX9_cutName_84, KX9_cutName_91, KX9_cutName_103, KX9_cutName_117, KX9_cutName_123, lkC, s1C, s2C, dlC, kyC, Nat.beq, Nat.ble, rcd, rno, rsw, Nat.reduceAdd, Nat.reduceBEq, Nat.reduceDiv, List.drop, List.take, List.reverse, List.reverseAux, Int.toNat, Option.toList, List.append, List.cons_append, List.nil_append, zg302, zg304, zg305, zg306, zg308]
          have c321 : (Int32.ofInt 1).toInt = 1 := by decide
          have u322 := tiC j
          have a322 : (j + (Int32.ofInt 1)).toInt = j.toInt + 1 := addC (by omega) (by omega) (by omega)
          exact hW _ 84 [(0, .inr (.inr (some p0))), (1, .inl p1), (2, .inl i), (3, .inr (.inl v)), (5, .inl (j + (Int32.ofInt 1)))] _ _ _ (List.forall_mem_cons.2 ⟨List.Mem.tail _ (List.Mem.head _), List.forall_mem_cons.2 ⟨List.Mem.tail _ (List.Mem.tail _ (List.Mem.head _)), List.forall_mem_cons.2 ⟨List.Mem.tail _ (List.Mem.tail _ (List.Mem.tail _ (List.Mem.head _))), List.forall_mem_cons.2 ⟨List.Mem.tail _ (List.Mem.tail _ (List.Mem.tail _ (List.Mem.tail _ (List.Mem.head _)))), List.forall_mem_cons.2 ⟨List.Mem.head _, fun _ h => absurd h List.not_mem_nil⟩⟩⟩⟩⟩) (ih _ (by omega) _ _ hii (by omega) hl319)
  have t50 : ∀ (n : Nat) (i : Int32) (v : Int64), p1.toInt ≤ i.toInt → i.toInt ≤ x.2 → (i.toInt - p1.toInt ≤ 10 → v.toInt = kyY (naY x p1.toInt).2) → K n 50 [(0, .inr (.inr (some p0))), (1, .inl p1), (2, .inl i), (3, .inr (.inl v))] [] σ := by
    intro n i v hi0 hi1 hv
    refine hB _ _ _ _ _ (fun m401 hm401 => ?_)
    dsimp only [ucgo, ucwp, ucsC, uqC, uoC, ctC, rfd, KX9_cutName, KX9_cutName_0, KX9_cutName_4, KX9_cutName_12, KX9_cutName_23, KX9_cutName_34, KX9_cutName_50, KX9_cutName_58, KX9_cutName_60, KX9_cutName_84, KX9_cutName_91, KX9_cutName_103, KX9_cutName_117, KX9_cutName_123, lkC, s1C, s2C, dlC, kyC, Nat.beq, Nat.ble, rcd, rno, rsw, Nat.reduceAdd, Nat.reduceBEq, Nat.reduceDiv, List.drop, List.take, List.reverse, List.reverseAux, Int.toNat, Option.toList, List.append, List.cons_append, List.nil_append, zg302, zg304, zg305, zg306, zg308]
    have u402 := tiC i
    have a402 : (i - p1).toInt = i.toInt - p1.toInt := subC (by omega) (by omega) (by omega)
    have c403 : (Int32.ofInt 10).toInt = 10 := by decide
    refine ⟨fun h404 => ?_, fun h404 => ?_⟩
    · have g404 := leI (x := (i - p1)) (y := (Int32.ofInt 10)) h404
      refine hB _ _ _ _ _ (fun m405 hm405 => ?_)
      dsimp only [ucgo, ucwp, ucsC, uqC, uoC, ctC, rfd, KX9_cutName, KX9_cutName_0, KX9_cutName_4, KX9_cutName_12, KX9_cutName_23, KX9_cutName_34, KX9_cutName_50, KX9_cutName_58, KX9_cutName_60, KX9_cutName_84, KX9_cutName_91, KX9_cutName_103, KX9_cutName_117, KX9_cutName_123, lkC, s1C, s2C, dlC, kyC, Nat.beq, Nat.ble, rcd, rno, rsw, Nat.reduceAdd, Nat.reduceBEq, Nat.reduceDiv, List.drop, List.take, List.reverse, List.reverseAux, Int.toNat, Option.toList, List.append, List.cons_append, List.nil_append, zg302, zg304, zg305, zg306, zg308]
      intro a406 e406 ob406
      cases e406
      intro a407 e407 ob407
      cases e407
      have f408 : (fIC σ p0 305).toInt = (c : Int) := hc
      have c409 : (Int32.ofInt 80).toInt = 80 := by decide
      intro a410 e410 t410 v410
      generalize hs410 : qIC σ a410 (upd (eIC σ a410) (fIC σ p0 305).toNatClampNeg (Int32.ofInt 80)) = s410
      have he410 : eLC s410 = eLC σ := by rw [← hs410]; exact rfl
      intro a411 e411 ob411
      cases e411
      intro a412 e412 ob412
      cases e412
      have f413 : (fIC s410 p0 305).toInt = (c : Int) := (by rw [← hs410]; exact hc)
      intro a414 e414 t414 v414
      obtain rfl : r = a414 := Option.some.inj ((show fRC s410 p0 304 = some r by rw [← hs410]; exact hr).symm.trans e414)
      generalize hs414 : qLC s410 r (vp_updL (eLC s410 r) (fIC s410 p0 305).toNatClampNeg v) = s414
      have hv414 := LwC.q (r := r) (c := c) (k := (fIC s410 p0 305).toNatClampNeg) (v := v) (σ := σ) (τ := s410) he410 (by rw [nT_toNat]; omega)
      rw [hs414] at hv414
      have c415 : (Int32.ofInt 0).toInt = 0 := by decide
      exact hW _ 84 [(0, .inr (.inr (some p0))), (1, .inl p1), (2, .inl i), (3, .inr (.inl v)), (5, .inl (Int32.ofInt 0))] _ _ _ (List.forall_mem_cons.2 ⟨List.Mem.tail _ (List.Mem.head _), List.forall_mem_cons.2 ⟨List.Mem.tail _ (List.Mem.tail _ (List.Mem.head _)), List.forall_mem_cons.2 ⟨List.Mem.tail _ (List.Mem.tail _ (List.Mem.tail _ (List.Mem.head _))), List.forall_mem_cons.2 ⟨List.Mem.tail _ (List.Mem.tail _ (List.Mem.tail _ (List.Mem.tail _ (List.Mem.head _)))), List.forall_mem_cons.2 ⟨List.Mem.head _, fun _ h => absurd h List.not_mem_nil⟩⟩⟩⟩⟩) (L84 _ i v _ _ ⟨hi0, hi1⟩ (by omega) ⟨hv414.1, by rw [hv414.2]; exact hv (by omega)⟩)
    · have g404 := nleI (x := (i - p1)) (y := (Int32.ofInt 10)) h404
      refine hB _ _ _ _ _ (fun m416 hm416 => ?_)
      dsimp only [ucgo, ucwp, ucsC, uqC, uoC, ctC, rfd, KX9_cutName, KX9_cutName_0, KX9_cutName_4, KX9_cutName_12, KX9_cutName_23, KX9_cutName_34, KX9_cutName_50, KX9_cutName_58, KX9_cutName_60, KX9_cutName_84, KX9_cutName_91, KX9_cutName_103, KX9_cutName_117, KX9_cutName_123, lkC, s1C, s2C, dlC, kyC, Nat.beq, Nat.ble, rcd, rno, rsw, Nat.reduceAdd, Nat.reduceBEq, Nat.reduceDiv, List.drop, List.take, List.reverse, List.reverseAux, Int.toNat, Option.toList, List.append, List.cons_append, List.nil_append, zg302, zg304, zg305, zg306, zg308]
      have c417 : (Int32.ofInt 0).toInt = 0 := by decide
      try dsimp only [Qz_cutName]
      intro rr e9
      cases e9
      exact ⟨LwC.rf, fun q => absurd q (by decide)⟩
  have L4 : ∀ (n : Nat) (i : Int32) (v : Int64) (l : List Int), p1.toInt ≤ i.toInt → i.toInt ≤ x.2 → alK l → (l.length : Int) = i.toInt - p1.toInt → (l.length ≤ 10 → v.toInt = kyY l) → nmY x (x.2 - i.toInt).toNat i.toInt l = naY x p1.toInt → K n 4 [(0, .inr (.inr (some p0))), (1, .inl p1), (2, .inl i), (3, .inr (.inl v))] [] σ := by
    intro n
    induction n using Nat.strongRecOn with
    | _ n ih =>
      intro i v l hi0 hi1 hl hn hv hb
      refine hB _ _ _ _ _ (fun m501 hm501 => ?_)
      dsimp only [ucgo, ucwp, ucsC, uqC, uoC, ctC, rfd, KX9_cutName, KX9_cutName_0, KX9_cutName_4, KX9_cutName_12, KX9_cutName_23, KX9_cutName_34, KX9_cutName_50, KX9_cutName_58, KX9_cutName_60, KX9_cutName_84, KX9_cutName_91, KX9_cutName_103, KX9_cutName_117, KX9_cutName_123, lkC, s1C, s2C, dlC, kyC, Nat.beq, Nat.ble, rcd, rno, rsw, Nat.reduceAdd, Nat.reduceBEq, Nat.reduceDiv, List.drop, List.take, List.reverse, List.reverseAux, Int.toNat, Option.toList, List.append, List.cons_append, List.nil_append, zg302, zg304, zg305, zg306, zg308]
      intro a502 e502 ob502
      cases e502
      have f503 : (fIC σ p0 308).toInt = x.2 := hx.1
      refine ⟨fun h504 => ?_, fun h504 => ?_⟩
      · have g504 := leI (x := (fIC σ p0 308)) (y := i) h504
        refine hW _ 50 [(0, .inr (.inr (some p0))), (1, .inl p1), (2, .inl i), (3, .inr (.inl v))] _ _ _ (List.forall_mem_cons.2 ⟨List.Mem.head _, List.forall_mem_cons.2 ⟨List.Mem.tail _ (List.Mem.head _), List.forall_mem_cons.2 ⟨List.Mem.tail _ (List.Mem.tail _ (List.Mem.head _)), List.forall_mem_cons.2 ⟨List.Mem.tail _ (List.Mem.tail _ (List.Mem.tail _ (List.Mem.head _))), fun _ h => absurd h List.not_mem_nil⟩⟩⟩⟩) (t50 _ i v hi0 hi1 (fun h9 => ?_))
        have hE : naY x p1.toInt = (i.toInt, l) := by
          rw [← hb]
          first
            | (rw [fu_z (x := x) (i := i.toInt) (by omega)]; rfl)
            | exact nm_no (al_0 (by omega))
        rw [hE]
        exact hv (by omega)
      · have g504 := nleI (x := (fIC σ p0 308)) (y := i) h504
        refine hB _ _ _ _ _ (fun m505 hm505 => ?_)
        dsimp only [ucgo, ucwp, ucsC, uqC, uoC, ctC, rfd, KX9_cutName, KX9_cutName_0, KX9_cutName_4, KX9_cutName_12, KX9_cutName_23, KX9_cutName_34, KX9_cutName_50, KX9_cutName_58, KX9_cutName_60, KX9_cutName_84, KX9_cutName_91, KX9_cutName_103, KX9_cutName_117, KX9_cutName_123, lkC, s1C, s2C, dlC, kyC, Nat.beq, Nat.ble, rcd, rno, rsw, Nat.reduceAdd, Nat.reduceBEq, Nat.reduceDiv, List.drop, List.take, List.reverse, List.reverseAux, Int.toNat, Option.toList, List.append, List.cons_append, List.nil_append, zg302, zg304, zg305, zg306, zg308]
        intro w506 τ506 o506 q506
        obtain ⟨hb506, hu506⟩ : Q_X9_byteAt [.inr (.inr (some p0)), .inl i] σ w506 τ506 ∧ U_byteAt [.inr (.inr (some p0)), .inl i] σ w506 τ506 := o506.1.1
        obtain ⟨r506, rfl, rfl⟩ := hb506
        have b506 : r506.toInt = btY x i.toInt := (hu506 x hx r506 rfl).trans (by first | rfl | rw [show (i : Int32).toInt = i.toInt from by omega])
        try dsimp only [Option.toList, List.cons_append, List.nil_append, s1C, s2C, dlC, kyC, Nat.beq, lkC, rcd, rno, rsw]
        intro w507 τ507 o507 q507
        obtain ⟨hb507, hu507⟩ : Q_X9_isLetter [.inl r506] σ w507 τ507 ∧ U_isLetter [.inl r506] σ w507 τ507 := o507.1.1
        obtain ⟨r507, rfl, rfl, -, -⟩ := hb507
        have d507 := ltrI (hu507 () trivial r507 rfl)
        try dsimp only [Option.toList, List.cons_append, List.nil_append, s1C, s2C, dlC, kyC, Nat.beq, lkC, rcd, rno, rsw]
        refine ⟨fun h508 => ?_, fun h508 => ?_⟩
        · have g508 := (neI (x := r507) (y := 0) h508 : ¬ (r507 : Int32).toInt = (0 : Int32).toInt)
          have z0_ : (0 : Int32).toInt = 0 := rfl
          refine hB _ _ _ _ _ (fun m509 hm509 => ?_)
          dsimp only [ucgo, ucwp, ucsC, uqC, uoC, ctC, rfd, KX9_cutName, KX9_cutName_0, KX9_cutName_4, KX9_cutName_12, KX9_cutName_23, KX9_cutName_34, KX9_cutName_50, KX9_cutName_58, KX9_cutName_60, KX9_cutName_84, KX9_cutName_91, KX9_cutName_103, KX9_cutName_117, KX9_cutName_123, lkC, s1C, s2C, dlC, kyC, Nat.beq, Nat.ble, rcd, rno, rsw, Nat.reduceAdd, Nat.reduceBEq, Nat.reduceDiv, List.drop, List.take, List.reverse, List.reverseAux, Int.toNat, Option.toList, List.append, List.cons_append, List.nil_append, zg302, zg304, zg305, zg306, zg308]
          intro w510 τ510 o510 q510
          obtain ⟨hb510, hu510⟩ : Q_X9_byteAt [.inr (.inr (some p0)), .inl i] σ w510 τ510 ∧ U_byteAt [.inr (.inr (some p0)), .inl i] σ w510 τ510 := o510.1.1
          obtain ⟨r510, rfl, rfl⟩ := hb510
          have b510 : r510.toInt = btY x i.toInt := (hu510 x hx r510 rfl).trans (by first | rfl | rw [show (i : Int32).toInt = i.toInt from by omega])
          try dsimp only [Option.toList, List.cons_append, List.nil_append, s1C, s2C, dlC, kyC, Nat.beq, lkC, rcd, rno, rsw]
          intro w511 τ511 o511 q511
          obtain ⟨hb511, hu511⟩ : Q_X9_longerKey [.inr (.inl v), .inl r510] σ w511 τ511 ∧ U_longerKey [.inr (.inl v), .inl r510] σ w511 τ511 := o511.1.1
          obtain ⟨v511, rfl, rfl⟩ := hb511
          obtain ⟨c511, x511, rfl⟩ := hu511 () ⟨by omega, by omega⟩ v511 rfl
          try dsimp only [Option.toList, List.cons_append, List.nil_append, s1C, s2C, dlC, kyC, Nat.beq, lkC, rcd, rno, rsw]
          have c512 : (Int32.ofInt 1).toInt = 1 := by decide
          have u513 := tiC i
          have a513 : (i + (Int32.ofInt 1)).toInt = i.toInt + 1 := addC (by omega) (by omega) (by omega)
          have al : isLY (btY x i.toInt) ∨ isDY (btY x i.toInt) := al_1 (by omega)
          refine hW _ 4 [(0, .inr (.inr (some p0))), (1, .inl p1), (2, .inl (i + (Int32.ofInt 1))), (3, .inr (.inl (v <<< ((Int32.ofInt 6).toInt64 &&& 63) ||| c511.toInt64)))] _ _ _ (List.forall_mem_cons.2 ⟨List.Mem.tail _ (List.Mem.tail _ (List.Mem.head _)), List.forall_mem_cons.2 ⟨List.Mem.tail _ (List.Mem.tail _ (List.Mem.tail _ (List.Mem.head _))), List.forall_mem_cons.2 ⟨List.Mem.head _, List.forall_mem_cons.2 ⟨List.Mem.tail _ (List.Mem.head _), fun _ h => absurd h List.not_mem_nil⟩⟩⟩⟩) (ih _ (by omega) (i + (Int32.ofInt 1)) _ (btY x i.toInt :: l) (by omega) (by omega) (fun y hy => (List.mem_cons.mp hy).elim (fun e => by rw [e]; exact al) (hl y)) (by rw [List.length_cons]; omega) (fun h10 => ?_) ?_)
          · rw [List.length_cons] at h10
            exact ky_s hl (by omega) (hv (by omega)) al (by rw [x511, show (r510 : Int32).toInt = btY x i.toInt from by omega])
          · rw [show ((i + (Int32.ofInt 1)) : Int32).toInt = i.toInt + 1 from by omega, ← nm_go (by omega) al]
            exact hb
        · have g508 := (eqI (x := r507) (y := 0) h508 : (r507 : Int32).toInt = (0 : Int32).toInt)
          have z0_ : (0 : Int32).toInt = 0 := rfl
          refine hB _ _ _ _ _ (fun m514 hm514 => ?_)
          dsimp only [ucgo, ucwp, ucsC, uqC, uoC, ctC, rfd, KX9_cutName, KX9_cutName_0, KX9_cutName_4, KX9_cutName_12, KX9_cutName_23, KX9_cutName_34, KX9_cutName_50, KX9_cutName_58, KX9_cutName_60, KX9_cutName_84, KX9_cutName_91, KX9_cutName_103, KX9_cutName_117, KX9_cutName_123, lkC, s1C, s2C, dlC, kyC, Nat.beq, Nat.ble, rcd, rno, rsw, Nat.reduceAdd, Nat.reduceBEq, Nat.reduceDiv, List.drop, List.take, List.reverse, List.reverseAux, Int.toNat, Option.toList, List.append, List.cons_append, List.nil_append, zg302, zg304, zg305, zg306, zg308]
          intro w515 τ515 o515 q515
          obtain ⟨hb515, hu515⟩ : Q_X9_byteAt [.inr (.inr (some p0)), .inl i] σ w515 τ515 ∧ U_byteAt [.inr (.inr (some p0)), .inl i] σ w515 τ515 := o515.1.1
          obtain ⟨r515, rfl, rfl⟩ := hb515
          have b515 : r515.toInt = btY x i.toInt := (hu515 x hx r515 rfl).trans (by first | rfl | rw [show (i : Int32).toInt = i.toInt from by omega])
          try dsimp only [Option.toList, List.cons_append, List.nil_append, s1C, s2C, dlC, kyC, Nat.beq, lkC, rcd, rno, rsw]
          intro w516 τ516 o516 q516
          obtain ⟨hb516, hu516⟩ : Q_X9_isDigit [.inl r515] σ w516 τ516 ∧ U_isDigit [.inl r515] σ w516 τ516 := o516.1.1
          obtain ⟨r516, rfl, rfl, -, -⟩ := hb516
          have d516 := digI (hu516 () trivial r516 rfl)
          try dsimp only [Option.toList, List.cons_append, List.nil_append, s1C, s2C, dlC, kyC, Nat.beq, lkC, rcd, rno, rsw]
          refine ⟨fun h517 => ?_, fun h517 => ?_⟩
          · have g517 := (eqI (x := r516) (y := 0) h517 : (r516 : Int32).toInt = (0 : Int32).toInt)
            have z0_ : (0 : Int32).toInt = 0 := rfl
            refine hW _ 50 [(0, .inr (.inr (some p0))), (1, .inl p1), (2, .inl i), (3, .inr (.inl v))] _ _ _ (List.forall_mem_cons.2 ⟨List.Mem.head _, List.forall_mem_cons.2 ⟨List.Mem.tail _ (List.Mem.head _), List.forall_mem_cons.2 ⟨List.Mem.tail _ (List.Mem.tail _ (List.Mem.head _)), List.forall_mem_cons.2 ⟨List.Mem.tail _ (List.Mem.tail _ (List.Mem.tail _ (List.Mem.head _))), fun _ h => absurd h List.not_mem_nil⟩⟩⟩⟩) (t50 _ i v hi0 hi1 (fun h9 => ?_))
            have hE : naY x p1.toInt = (i.toInt, l) := by
              rw [← hb]
              first
                | (rw [fu_z (x := x) (i := i.toInt) (by omega)]; rfl)
                | exact nm_no (al_0 (by omega))
            rw [hE]
            exact hv (by omega)
          · have g517 := (neI (x := r516) (y := 0) h517 : ¬ (r516 : Int32).toInt = (0 : Int32).toInt)
            have z0_ : (0 : Int32).toInt = 0 := rfl
            refine hB _ _ _ _ _ (fun m518 hm518 => ?_)
            dsimp only [ucgo, ucwp, ucsC, uqC, uoC, ctC, rfd, KX9_cutName, KX9_cutName_0, KX9_cutName_4, KX9_cutName_12, KX9_cutName_23, KX9_cutName_34, KX9_cutName_50, KX9_cutName_58, KX9_cutName_60, KX9_cutName_84, KX9_cutName_91, KX9_cutName_103, KX9_cutName_117, KX9_cutName_123, lkC, s1C, s2C, dlC, kyC, Nat.beq, Nat.ble, rcd, rno, rsw, Nat.reduceAdd, Nat.reduceBEq, Nat.reduceDiv, List.drop, List.take, List.reverse, List.reverseAux, Int.toNat, Option.toList, List.append, List.cons_append, List.nil_append, zg302, zg304, zg305, zg306, zg308]
            intro w519 τ519 o519 q519
            obtain ⟨hb519, hu519⟩ : Q_X9_byteAt [.inr (.inr (some p0)), .inl i] σ w519 τ519 ∧ U_byteAt [.inr (.inr (some p0)), .inl i] σ w519 τ519 := o519.1.1
            obtain ⟨r519, rfl, rfl⟩ := hb519
            have b519 : r519.toInt = btY x i.toInt := (hu519 x hx r519 rfl).trans (by first | rfl | rw [show (i : Int32).toInt = i.toInt from by omega])
            try dsimp only [Option.toList, List.cons_append, List.nil_append, s1C, s2C, dlC, kyC, Nat.beq, lkC, rcd, rno, rsw]
            intro w520 τ520 o520 q520
            obtain ⟨hb520, hu520⟩ : Q_X9_longerKey [.inr (.inl v), .inl r519] σ w520 τ520 ∧ U_longerKey [.inr (.inl v), .inl r519] σ w520 τ520 := o520.1.1
            obtain ⟨v520, rfl, rfl⟩ := hb520
            obtain ⟨c520, x520, rfl⟩ := hu520 () ⟨by omega, by omega⟩ v520 rfl
            try dsimp only [Option.toList, List.cons_append, List.nil_append, s1C, s2C, dlC, kyC, Nat.beq, lkC, rcd, rno, rsw]
            have c521 : (Int32.ofInt 1).toInt = 1 := by decide
            have u522 := tiC i
            have a522 : (i + (Int32.ofInt 1)).toInt = i.toInt + 1 := addC (by omega) (by omega) (by omega)
            have al : isLY (btY x i.toInt) ∨ isDY (btY x i.toInt) := al_1 (by omega)
            refine hW _ 4 [(0, .inr (.inr (some p0))), (1, .inl p1), (2, .inl (i + (Int32.ofInt 1))), (3, .inr (.inl (v <<< ((Int32.ofInt 6).toInt64 &&& 63) ||| c520.toInt64)))] _ _ _ (List.forall_mem_cons.2 ⟨List.Mem.tail _ (List.Mem.tail _ (List.Mem.head _)), List.forall_mem_cons.2 ⟨List.Mem.tail _ (List.Mem.tail _ (List.Mem.tail _ (List.Mem.head _))), List.forall_mem_cons.2 ⟨List.Mem.head _, List.forall_mem_cons.2 ⟨List.Mem.tail _ (List.Mem.head _), fun _ h => absurd h List.not_mem_nil⟩⟩⟩⟩) (ih _ (by omega) (i + (Int32.ofInt 1)) _ (btY x i.toInt :: l) (by omega) (by omega) (fun y hy => (List.mem_cons.mp hy).elim (fun e => by rw [e]; exact al) (hl y)) (by rw [List.length_cons]; omega) (fun h10 => ?_) ?_)
            · rw [List.length_cons] at h10
              exact ky_s hl (by omega) (hv (by omega)) al (by rw [x520, show (r519 : Int32).toInt = btY x i.toInt from by omega])
            · rw [show ((i + (Int32.ofInt 1)) : Int32).toInt = i.toInt + 1 from by omega, ← nm_go (by omega) al]
              exact hb
  change K n_ 0 [(0, .inr (.inr (some p0))), (1, .inl p1)] [] σ
  refine hB _ _ _ _ _ (fun m901 hm901 => ?_)
  dsimp only [ucgo, ucwp, ucsC, uqC, uoC, ctC, rfd, KX9_cutName, KX9_cutName_0, KX9_cutName_4, KX9_cutName_12, KX9_cutName_23, KX9_cutName_34, KX9_cutName_50, KX9_cutName_58, KX9_cutName_60, KX9_cutName_84, KX9_cutName_91, KX9_cutName_103, KX9_cutName_117, KX9_cutName_123, lkC, s1C, s2C, dlC, kyC, Nat.beq, Nat.ble, rcd, rno, rsw, Nat.reduceAdd, Nat.reduceBEq, Nat.reduceDiv, List.drop, List.take, List.reverse, List.reverseAux, Int.toNat, Option.toList, List.append, List.cons_append, List.nil_append, zg302, zg304, zg305, zg306, zg308]
  exact hW _ 4 [(0, .inr (.inr (some p0))), (1, .inl p1), (2, .inl p1), (3, .inr (.inl (Int64.ofNat ((0 : Fin 2) : Nat))))] _ _ _ (List.forall_mem_cons.2 ⟨List.Mem.tail _ (List.Mem.tail _ (List.Mem.head _)), List.forall_mem_cons.2 ⟨List.Mem.tail _ (List.Mem.tail _ (List.Mem.tail _ (List.Mem.head _))), List.forall_mem_cons.2 ⟨List.Mem.tail _ (List.Mem.head _), List.forall_mem_cons.2 ⟨List.Mem.head _, fun _ h => absurd h List.not_mem_nil⟩⟩⟩⟩) (L4 _ p1 _ [] (Int.le_refl _) (by omega) (fun _ h => absurd h List.not_mem_nil) (by show (0 : Int) = _; omega) (fun _ => by decide) rfl)
theorem wz_cutName : ∀ (L : Nat) (As : List AvC) (σ : CsC) (w : Option AvC) (τ : CsC), EvF L 194 As σ w τ → Uz_cutName As σ w τ := by
  intro L
  cases L with
  | zero => exact fun _ _ _ _ h => h.elim
  | succ L => exact fun As σ w τ h y hy => EvF.us (cs := [189, 192, 185, 193]) (pz_cutName y) rfl (List.forall_mem_cons.2 ⟨fun _ _ _ _ _ => trivial, List.forall_mem_cons.2 ⟨fun _ _ _ _ _ => trivial, List.forall_mem_cons.2 ⟨fun _ _ _ _ _ => trivial, List.forall_mem_cons.2 ⟨fun _ _ _ _ _ => trivial, fun _ h => absurd h List.not_mem_nil⟩⟩⟩⟩) h hy
