/-! the class's judge: S's -/
/-- links of S's lead to S's, exps -/
def WfS (z : ZS) (T : TbT) : Prop := ∀ j, j < snM z → (paS z j < (j : Int) ∧ njS z j < (snM z : Int) ∧ bjS z j < (snM z : Int) ∧ ojS z j < (snM z : Int) ∧ gjS z j < (snM z : Int)) ∧ (0 ≤ xjS z j → xjS z j < (xnM z : Int) ∧ ¬ (T.1 (xjS z j).toNat).1 = -1) ∧ (kjS z j = 6 → bjS z j = (j : Int) + 1)
theorem tg_neg {N : Int → Int} {f : Nat → SrZ} {on : Bool} {t : Int} {k : Nat} {x : Int} (h : x < 0) : tgZ N f on t k x = -1 := by
  cases k with
  | zero => rfl
  | succ k => rw [tgZ, if_pos h]
/-- the S that a jump leads to -/
def tjT (N : Int → Int) (z : ZS) (j : Nat) : Int := tgZ N z.2.2.1.2 (decide (kjS z j = 65)) (ljS z j) (snM z) (paS z j)
/-- no NAME: around of the same NAME -/
def lbT (N : Int → Int) (z : ZS) (t : Int) : Nat → Int → Prop
  | 0, _ => True
  | k + 1, x => if x < 0 then True else ¬ (kjS z x.toNat = 6 ∧ N (ljS z x.toNat) = N t) ∧ lbT N z t k (paS z x.toNat)
theorem lb_neg {N : Int → Int} {z : ZS} {t : Int} {k : Nat} {x : Int} (h : x < 0) : lbT N z t k x := by
  cases k with
  | zero => trivial
  | succ k => rw [lbT, if_pos h]; trivial
theorem lb_s {N : Int → Int} {z : ZS} {t : Int} {k j : Nat} : lbT N z t (k + 1) (j : Int) ↔ ¬ (kjS z j = 6 ∧ N (ljS z j) = N t) ∧ lbT N z t k (paS z j) := by
  rw [lbT, if_neg (by omega), Int.toNat_natCast]
theorem iff_e {P : Prop} {E : Nat → Nat} {σ : CsC} (h : P) : (erC E σ ∨ ¬ P) ↔ erC E σ := ⟨fun q => q.elim id (fun n => absurd h n), Or.inl⟩
theorem er_we {E : Nat → Nat} {σ τ : CsC} (h : WeC σ τ) : erC E τ ↔ erC E σ := by
  show ¬ fIC τ (E 1) 217 = 0 ↔ ¬ fIC σ (E 1) 217 = 0
  rw [we_i h]
abbrev Pz_isSameName : ((Int → Int) × (Nat → Nat) × (Nat → Nat) × (Nat → Nat) × (Nat → Nat) × ZS) → CpC := fun y As σ => match y with
  | (N, E, A, B, V, z) => ∃ (p1 : Int32) (p2 : Int32), As = [.inr (.inr (some (E 3))), .inl p1, .inl p2] ∧ (NmC N E σ)
abbrev Qz_isSameName : ((Int → Int) × (Nat → Nat) × (Nat → Nat) × (Nat → Nat) × (Nat → Nat) × ZS) → CqC := fun y As σ w τ => match y, As with
  | (N, E, A, B, V, z), [_, .inl p1, .inl p2] => ∃ r, w = some (.inl r) ∧ ((r.toInt = 1 ∧ (N p1.toInt = N p2.toInt)) ∨ (r.toInt = 0 ∧ ¬ (N p1.toInt = N p2.toInt))) ∧ σ = τ
  | _, _ => True
abbrev Uz_isSameName : CqC := fun As σ w τ => ∀ y, Pz_isSameName y As σ → Qz_isSameName y As σ w τ
set_option maxHeartbeats 4000000 in
theorem pz_isSameName (y : (Int → Int) × (Nat → Nat) × (Nat → Nat) × (Nat → Nat) × (Nat → Nat) × ZS) : PbC KX3_isSameName [] [] (fun As σ => Pz_isSameName y As σ ∧ cnC σ ≤ 1000000 ∧ ∃ w τ, uqC quL 84 As σ w τ) (Qz_isSameName y) := by
  obtain ⟨N, E, A, B, V, z⟩ := y
  rintro As σ ⟨⟨p1, p2, rfl, hNm⟩, hcn, _, _, hQ⟩ K hB hW n_
  change K n_ 0 [(0, .inr (.inr (some (E 3)))), (1, .inl p1), (2, .inl p2)] [] σ
  refine hB _ _ _ _ _ (fun m51 hm51 => ?_)
  dsimp only [ucgo, ucwp, ucsC, uqC, uoC, ctC, rfd, KX3_isSameName, KX3_isSameName_0, KX3_isSameName_28, KX3_isSameName_32, KX3_isSameName_33, lkC, s1C, s2C, dlC, kyC, Nat.beq, Nat.ble, rcd, rno, rsw, Nat.reduceAdd, Nat.reduceBEq, Nat.reduceDiv, List.drop, List.take, List.reverse, List.reverseAux, Int.toNat, Option.toList, List.append, List.cons_append, List.nil_append, zg121, zg210, zg304]
  intro a52 e52 ob52
  cases e52
  intro a54 e54 ob54
  obtain rfl : E 1 = a54 := Option.some.inj (hNm.1.1.symm.trans e54)
  intro a56 e56 ob56
  obtain rfl : E 2 = a56 := Option.some.inj (hNm.2.1.1.1.symm.trans e56)
  intro a58 e58 t58 v58
  obtain rfl : E 304 = a58 := Option.some.inj (hNm.2.1.1.2.2.symm.trans e58)
  intro a59 e59 ob59
  cases e59
  intro a61 e61 ob61
  obtain rfl : E 1 = a61 := Option.some.inj (hNm.1.1.symm.trans e61)
  intro a63 e63 ob63
  obtain rfl : E 2 = a63 := Option.some.inj (hNm.2.1.1.1.symm.trans e63)
  intro a65 e65 t65 v65
  obtain rfl : E 304 = a65 := Option.some.inj (hNm.2.1.1.2.2.symm.trans e65)
  have lc66 : (lg_cmp (eLC σ (E 304) p1.toNatClampNeg) (eLC σ (E 304) p2.toNatClampNeg)).toInt = 0 → (eLC σ (E 304) p1.toNatClampNeg) = (eLC σ (E 304) p2.toNatClampNeg) := lcmpC
  have ld66 : (eLC σ (E 304) p1.toNatClampNeg) = (eLC σ (E 304) p2.toNatClampNeg) → (lg_cmp (eLC σ (E 304) p1.toNatClampNeg) (eLC σ (E 304) p2.toNatClampNeg)).toInt = 0 := fun e => by rw [e]; exact lcmp0
  refine ⟨fun h67 => ?_, fun h67 => ?_⟩
  · have g67 := (neI (x := (lg_cmp (eLC σ (E 304) p1.toNatClampNeg) (eLC σ (E 304) p2.toNatClampNeg))) (y := 0) h67 : ¬ ((lg_cmp (eLC σ (E 304) p1.toNatClampNeg) (eLC σ (E 304) p2.toNatClampNeg)) : Int32).toInt = (0 : Int32).toInt)
    have z0_ : (0 : Int32).toInt = 0 := rfl
    refine hB _ _ _ _ _ (fun m68 hm68 => ?_)
    dsimp only [ucgo, ucwp, ucsC, uqC, uoC, ctC, rfd, KX3_isSameName, KX3_isSameName_0, KX3_isSameName_28, KX3_isSameName_32, KX3_isSameName_33, lkC, s1C, s2C, dlC, kyC, Nat.beq, Nat.ble, rcd, rno, rsw, Nat.reduceAdd, Nat.reduceBEq, Nat.reduceDiv, List.drop, List.take, List.reverse, List.reverseAux, Int.toNat, Option.toList, List.append, List.cons_append, List.nil_append, zg121, zg210, zg304]
    have c69 : (Int32.ofInt 0).toInt = 0 := by decide
    refine hB _ _ _ _ _ (fun m70 hm70 => ?_)
    dsimp only [ucgo, ucwp, ucsC, uqC, uoC, ctC, rfd, KX3_isSameName, KX3_isSameName_0, KX3_isSameName_28, KX3_isSameName_32, KX3_isSameName_33, lkC, s1C, s2C, dlC, kyC, Nat.beq, Nat.ble, rcd, rno, rsw, Nat.reduceAdd, Nat.reduceBEq, Nat.reduceDiv, List.drop, List.take, List.reverse, List.reverseAux, Int.toNat, Option.toList, List.append, List.cons_append, List.nil_append, zg121, zg210, zg304]
    try dsimp only [Qz_isSameName]
    have hN := hNm.2.2
    have x1 := nltI (y := (0 : Int32)) (fun q => v58 (Or.inl q))
    have x2 := nltI (y := (0 : Int32)) (fun q => v65 (Or.inl q))
    have z0_ : (0 : Int32).toInt = 0 := rfl
    have n1 : (eLC σ (E 304) p1.toNatClampNeg).toInt = N p1.toInt := by rw [hN, nT_toNat]; exact congrArg N (by omega)
    have n2 : (eLC σ (E 304) p2.toNatClampNeg).toInt = N p2.toInt := by rw [hN, nT_toNat]; exact congrArg N (by omega)
    exact ⟨_, rfl, Or.inr ⟨by omega, fun q9 => absurd (ld66 (Int64.toInt_inj.mp (n1.trans (q9.trans n2.symm)))) (by omega)⟩, rfl⟩
  · have g67 := (eqI (x := (lg_cmp (eLC σ (E 304) p1.toNatClampNeg) (eLC σ (E 304) p2.toNatClampNeg))) (y := 0) h67 : ((lg_cmp (eLC σ (E 304) p1.toNatClampNeg) (eLC σ (E 304) p2.toNatClampNeg)) : Int32).toInt = (0 : Int32).toInt)
    have z0_ : (0 : Int32).toInt = 0 := rfl
    refine hB _ _ _ _ _ (fun m71 hm71 => ?_)
    dsimp only [ucgo, ucwp, ucsC, uqC, uoC, ctC, rfd, KX3_isSameName, KX3_isSameName_0, KX3_isSameName_28, KX3_isSameName_32, KX3_isSameName_33, lkC, s1C, s2C, dlC, kyC, Nat.beq, Nat.ble, rcd, rno, rsw, Nat.reduceAdd, Nat.reduceBEq, Nat.reduceDiv, List.drop, List.take, List.reverse, List.reverseAux, Int.toNat, Option.toList, List.append, List.cons_append, List.nil_append, zg121, zg210, zg304]
    have c72 : (Int32.ofInt 1).toInt = 1 := by decide
    refine hB _ _ _ _ _ (fun m73 hm73 => ?_)
    dsimp only [ucgo, ucwp, ucsC, uqC, uoC, ctC, rfd, KX3_isSameName, KX3_isSameName_0, KX3_isSameName_28, KX3_isSameName_32, KX3_isSameName_33, lkC, s1C, s2C, dlC, kyC, Nat.beq, Nat.ble, rcd, rno, rsw, Nat.reduceAdd, Nat.reduceBEq, Nat.reduceDiv, List.drop, List.take, List.reverse, List.reverseAux, Int.toNat, Option.toList, List.append, List.cons_append, List.nil_append, zg121, zg210, zg304]
    try dsimp only [Qz_isSameName]
    have hN := hNm.2.2
    have x1 := nltI (y := (0 : Int32)) (fun q => v58 (Or.inl q))
    have x2 := nltI (y := (0 : Int32)) (fun q => v65 (Or.inl q))
    have z0_ : (0 : Int32).toInt = 0 := rfl
    have n1 : (eLC σ (E 304) p1.toNatClampNeg).toInt = N p1.toInt := by rw [hN, nT_toNat]; exact congrArg N (by omega)
    have n2 : (eLC σ (E 304) p2.toNatClampNeg).toInt = N p2.toInt := by rw [hN, nT_toNat]; exact congrArg N (by omega)
    exact ⟨_, rfl, Or.inl ⟨by omega, by rw [← n1, ← n2]; exact congrArg Int64.toInt (lc66 (by omega))⟩, rfl⟩
theorem wz_isSameName : ∀ (L : Nat) (As : List AvC) (σ : CsC) (w : Option AvC) (τ : CsC), EvF L 84 As σ w τ → Uz_isSameName As σ w τ := by
  intro L
  cases L with
  | zero => exact fun _ _ _ _ h => h.elim
  | succ L => exact fun As σ w τ h y hy => EvF.us (cs := []) (pz_isSameName y) rfl (fun _ h => absurd h List.not_mem_nil) h hy
abbrev Pz_isLoop : ((Int → Int) × (Nat → Nat) × (Nat → Nat) × (Nat → Nat) × (Nat → Nat) × ZS) → CpC := fun y As σ => match y with
  | (N, E, A, B, V, z) => ∃ (p0 : Nat), As = [.inr (.inr (some p0))]
abbrev Qz_isLoop : ((Int → Int) × (Nat → Nat) × (Nat → Nat) × (Nat → Nat) × (Nat → Nat) × ZS) → CqC := fun y As σ w τ => match y, As with
  | (N, E, A, B, V, z), [.inr (.inr (some p0))] => ∃ r, w = some (.inl r) ∧ ((r.toInt = 1 ∧ ((fIC σ p0 270).toInt = 58 ∨ (fIC σ p0 270).toInt = 59 ∨ (fIC σ p0 270).toInt = 60)) ∨ (r.toInt = 0 ∧ ¬ ((fIC σ p0 270).toInt = 58 ∨ (fIC σ p0 270).toInt = 59 ∨ (fIC σ p0 270).toInt = 60))) ∧ σ = τ
  | _, _ => True
abbrev Uz_isLoop : CqC := fun As σ w τ => ∀ y, Pz_isLoop y As σ → Qz_isLoop y As σ w τ
set_option maxHeartbeats 4000000 in
theorem pz_isLoop (y : (Int → Int) × (Nat → Nat) × (Nat → Nat) × (Nat → Nat) × (Nat → Nat) × ZS) : PbC KX8_isLoop [] [] (fun As σ => Pz_isLoop y As σ ∧ cnC σ ≤ 1000000 ∧ ∃ w τ, uqC quL 179 As σ w τ) (Qz_isLoop y) := by
  obtain ⟨N, E, A, B, V, z⟩ := y
  rintro As σ ⟨⟨p0, rfl⟩, hcn, _, _, hQ⟩ K hB hW n_
  change K n_ 0 [(0, .inr (.inr (some p0)))] [] σ
  refine hB _ _ _ _ _ (fun m51 hm51 => ?_)
  dsimp only [ucgo, ucwp, ucsC, uqC, uoC, ctC, rfd, KX8_isLoop, KX8_isLoop_0, KX8_isLoop_9, KX8_isLoop_18, KX8_isLoop_27, KX8_isLoop_31, KX8_isLoop_32, lkC, s1C, s2C, dlC, kyC, Nat.beq, Nat.ble, rcd, rno, rsw, Nat.reduceAdd, Nat.reduceBEq, Nat.reduceDiv, List.drop, List.take, List.reverse, List.reverseAux, Int.toNat, Option.toList, List.append, List.cons_append, List.nil_append, zg270]
  intro a52 e52 ob52
  cases e52
  have c53 : (Int32.ofInt 58).toInt = 58 := by decide
  refine ⟨fun h54 => ?_, fun h54 => ?_⟩
  · have g54 := (eqI (x := (fIC σ p0 270)) (y := (Int32.ofInt 58)) h54 : ((fIC σ p0 270) : Int32).toInt = ((Int32.ofInt 58) : Int32).toInt)
    refine hB _ _ _ _ _ (fun m55 hm55 => ?_)
    dsimp only [ucgo, ucwp, ucsC, uqC, uoC, ctC, rfd, KX8_isLoop, KX8_isLoop_0, KX8_isLoop_9, KX8_isLoop_18, KX8_isLoop_27, KX8_isLoop_31, KX8_isLoop_32, lkC, s1C, s2C, dlC, kyC, Nat.beq, Nat.ble, rcd, rno, rsw, Nat.reduceAdd, Nat.reduceBEq, Nat.reduceDiv, List.drop, List.take, List.reverse, List.reverseAux, Int.toNat, Option.toList, List.append, List.cons_append, List.nil_append, zg270]
    have c56 : (Int32.ofInt 1).toInt = 1 := by decide
    refine hB _ _ _ _ _ (fun m57 hm57 => ?_)
    dsimp only [ucgo, ucwp, ucsC, uqC, uoC, ctC, rfd, KX8_isLoop, KX8_isLoop_0, KX8_isLoop_9, KX8_isLoop_18, KX8_isLoop_27, KX8_isLoop_31, KX8_isLoop_32, lkC, s1C, s2C, dlC, kyC, Nat.beq, Nat.ble, rcd, rno, rsw, Nat.reduceAdd, Nat.reduceBEq, Nat.reduceDiv, List.drop, List.take, List.reverse, List.reverseAux, Int.toNat, Option.toList, List.append, List.cons_append, List.nil_append, zg270]
    try dsimp only [Qz_isLoop]
    exact ⟨_, rfl, Or.inl ⟨by omega, by omega⟩, rfl⟩
  · have g54 := (neI (x := (fIC σ p0 270)) (y := (Int32.ofInt 58)) h54 : ¬ ((fIC σ p0 270) : Int32).toInt = ((Int32.ofInt 58) : Int32).toInt)
    refine hB _ _ _ _ _ (fun m58 hm58 => ?_)
    dsimp only [ucgo, ucwp, ucsC, uqC, uoC, ctC, rfd, KX8_isLoop, KX8_isLoop_0, KX8_isLoop_9, KX8_isLoop_18, KX8_isLoop_27, KX8_isLoop_31, KX8_isLoop_32, lkC, s1C, s2C, dlC, kyC, Nat.beq, Nat.ble, rcd, rno, rsw, Nat.reduceAdd, Nat.reduceBEq, Nat.reduceDiv, List.drop, List.take, List.reverse, List.reverseAux, Int.toNat, Option.toList, List.append, List.cons_append, List.nil_append, zg270]
    intro a59 e59 ob59
    cases e59
    have c60 : (Int32.ofInt 59).toInt = 59 := by decide
    refine ⟨fun h61 => ?_, fun h61 => ?_⟩
    · have g61 := (eqI (x := (fIC σ p0 270)) (y := (Int32.ofInt 59)) h61 : ((fIC σ p0 270) : Int32).toInt = ((Int32.ofInt 59) : Int32).toInt)
      refine hB _ _ _ _ _ (fun m62 hm62 => ?_)
      dsimp only [ucgo, ucwp, ucsC, uqC, uoC, ctC, rfd, KX8_isLoop, KX8_isLoop_0, KX8_isLoop_9, KX8_isLoop_18, KX8_isLoop_27, KX8_isLoop_31, KX8_isLoop_32, lkC, s1C, s2C, dlC, kyC, Nat.beq, Nat.ble, rcd, rno, rsw, Nat.reduceAdd, Nat.reduceBEq, Nat.reduceDiv, List.drop, List.take, List.reverse, List.reverseAux, Int.toNat, Option.toList, List.append, List.cons_append, List.nil_append, zg270]
      have c63 : (Int32.ofInt 1).toInt = 1 := by decide
      refine hB _ _ _ _ _ (fun m64 hm64 => ?_)
      dsimp only [ucgo, ucwp, ucsC, uqC, uoC, ctC, rfd, KX8_isLoop, KX8_isLoop_0, KX8_isLoop_9, KX8_isLoop_18, KX8_isLoop_27, KX8_isLoop_31, KX8_isLoop_32, lkC, s1C, s2C, dlC, kyC, Nat.beq, Nat.ble, rcd, rno, rsw, Nat.reduceAdd, Nat.reduceBEq, Nat.reduceDiv, List.drop, List.take, List.reverse, List.reverseAux, Int.toNat, Option.toList, List.append, List.cons_append, List.nil_append, zg270]
      try dsimp only [Qz_isLoop]
      exact ⟨_, rfl, Or.inl ⟨by omega, by omega⟩, rfl⟩
    · have g61 := (neI (x := (fIC σ p0 270)) (y := (Int32.ofInt 59)) h61 : ¬ ((fIC σ p0 270) : Int32).toInt = ((Int32.ofInt 59) : Int32).toInt)
      refine hB _ _ _ _ _ (fun m65 hm65 => ?_)
      dsimp only [ucgo, ucwp, ucsC, uqC, uoC, ctC, rfd, KX8_isLoop, KX8_isLoop_0, KX8_isLoop_9, KX8_isLoop_18, KX8_isLoop_27, KX8_isLoop_31, KX8_isLoop_32, lkC, s1C, s2C, dlC, kyC, Nat.beq, Nat.ble, rcd, rno, rsw, Nat.reduceAdd, Nat.reduceBEq, Nat.reduceDiv, List.drop, List.take, List.reverse, List.reverseAux, Int.toNat, Option.toList, List.append, List.cons_append, List.nil_append, zg270]
      intro a66 e66 ob66
      cases e66
      have c67 : (Int32.ofInt 60).toInt = 60 := by decide
      refine ⟨fun h68 => ?_, fun h68 => ?_⟩
      · have g68 := (neI (x := (fIC σ p0 270)) (y := (Int32.ofInt 60)) h68 : ¬ ((fIC σ p0 270) : Int32).toInt = ((Int32.ofInt 60) : Int32).toInt)
        refine hB _ _ _ _ _ (fun m69 hm69 => ?_)
        dsimp only [ucgo, ucwp, ucsC, uqC, uoC, ctC, rfd, KX8_isLoop, KX8_isLoop_0, KX8_isLoop_9, KX8_isLoop_18, KX8_isLoop_27, KX8_isLoop_31, KX8_isLoop_32, lkC, s1C, s2C, dlC, kyC, Nat.beq, Nat.ble, rcd, rno, rsw, Nat.reduceAdd, Nat.reduceBEq, Nat.reduceDiv, List.drop, List.take, List.reverse, List.reverseAux, Int.toNat, Option.toList, List.append, List.cons_append, List.nil_append, zg270]
        have c70 : (Int32.ofInt 0).toInt = 0 := by decide
        refine hB _ _ _ _ _ (fun m71 hm71 => ?_)
        dsimp only [ucgo, ucwp, ucsC, uqC, uoC, ctC, rfd, KX8_isLoop, KX8_isLoop_0, KX8_isLoop_9, KX8_isLoop_18, KX8_isLoop_27, KX8_isLoop_31, KX8_isLoop_32, lkC, s1C, s2C, dlC, kyC, Nat.beq, Nat.ble, rcd, rno, rsw, Nat.reduceAdd, Nat.reduceBEq, Nat.reduceDiv, List.drop, List.take, List.reverse, List.reverseAux, Int.toNat, Option.toList, List.append, List.cons_append, List.nil_append, zg270]
        try dsimp only [Qz_isLoop]
        exact ⟨_, rfl, Or.inr ⟨by omega, by omega⟩, rfl⟩
      · have g68 := (eqI (x := (fIC σ p0 270)) (y := (Int32.ofInt 60)) h68 : ((fIC σ p0 270) : Int32).toInt = ((Int32.ofInt 60) : Int32).toInt)
        refine hB _ _ _ _ _ (fun m72 hm72 => ?_)
        dsimp only [ucgo, ucwp, ucsC, uqC, uoC, ctC, rfd, KX8_isLoop, KX8_isLoop_0, KX8_isLoop_9, KX8_isLoop_18, KX8_isLoop_27, KX8_isLoop_31, KX8_isLoop_32, lkC, s1C, s2C, dlC, kyC, Nat.beq, Nat.ble, rcd, rno, rsw, Nat.reduceAdd, Nat.reduceBEq, Nat.reduceDiv, List.drop, List.take, List.reverse, List.reverseAux, Int.toNat, Option.toList, List.append, List.cons_append, List.nil_append, zg270]
        have c73 : (Int32.ofInt 1).toInt = 1 := by decide
        refine hB _ _ _ _ _ (fun m74 hm74 => ?_)
        dsimp only [ucgo, ucwp, ucsC, uqC, uoC, ctC, rfd, KX8_isLoop, KX8_isLoop_0, KX8_isLoop_9, KX8_isLoop_18, KX8_isLoop_27, KX8_isLoop_31, KX8_isLoop_32, lkC, s1C, s2C, dlC, kyC, Nat.beq, Nat.ble, rcd, rno, rsw, Nat.reduceAdd, Nat.reduceBEq, Nat.reduceDiv, List.drop, List.take, List.reverse, List.reverseAux, Int.toNat, Option.toList, List.append, List.cons_append, List.nil_append, zg270]
        try dsimp only [Qz_isLoop]
        exact ⟨_, rfl, Or.inl ⟨by omega, by omega⟩, rfl⟩
theorem wz_isLoop : ∀ (L : Nat) (As : List AvC) (σ : CsC) (w : Option AvC) (τ : CsC), EvF L 179 As σ w τ → Uz_isLoop As σ w τ := by
  intro L
  cases L with
  | zero => exact fun _ _ _ _ h => h.elim
  | succ L => exact fun As σ w τ h y hy => EvF.us (cs := []) (pz_isLoop y) rfl (fun _ h => absurd h List.not_mem_nil) h hy
abbrev Pz_judgeLabel : ((Int → Int) × (Nat → Nat) × (Nat → Nat) × (Nat → Nat) × (Nat → Nat) × ZS × TbT × MfT × Nat × Nat) → CpC := fun y As σ => match y with
  | (N, E, A, B, V, z, T, ms, nm, j) => ∃ (p1 : Nat), As = [.inr (.inr (some (E 3))), .inr (.inr (some p1))] ∧ (SsC E A B σ z T ms nm) ∧ (NmC N E σ) ∧ (WfS z T) ∧ (j < snM z) ∧ (p1 = B j)
abbrev Qz_judgeLabel : ((Int → Int) × (Nat → Nat) × (Nat → Nat) × (Nat → Nat) × (Nat → Nat) × ZS × TbT × MfT × Nat × Nat) → CqC := fun y As σ w τ => match y, As with
  | (N, E, A, B, V, z, T, ms, nm, j), [_, .inr (.inr (some p1))] => w = none ∧ (erC E τ ↔ erC E σ ∨ ¬ lbT N z (ljS z j) (snM z) (paS z j))
  | _, _ => True
abbrev Uz_judgeLabel : CqC := fun As σ w τ => ∀ y, Pz_judgeLabel y As σ → Qz_judgeLabel y As σ w τ
set_option maxHeartbeats 4000000 in
theorem pz_judgeLabel (y : (Int → Int) × (Nat → Nat) × (Nat → Nat) × (Nat → Nat) × (Nat → Nat) × ZS × TbT × MfT × Nat × Nat) : PbC KX3_judgeLabel [(84, TrP, EqC 84), (118, TrP, EqC 118)] [(84, Uz_isSameName), (118, Uz_tell)] (fun As σ => Pz_judgeLabel y As σ ∧ cnC σ ≤ 1000000 ∧ ∃ w τ, uqC quL 85 As σ w τ) (Qz_judgeLabel y) := by
  obtain ⟨N, E, A, B, V, z, T, ms, nm, j⟩ := y
  rintro As σ ⟨⟨p1, rfl, hSs, hNm, hwf, hj, hp⟩, hcn, _, _, hQ⟩ K hB hW n_
  have op : SlC A B σ z j p1 ∧ p1 < cnC σ := by rw [hp]; exact hSs.1 j hj
  have L5 : ∀ (n : Nat) (s0 : CsC) (x9 : Int) (fu : Nat), (FrE [217, 218] σ s0) → (x9 < (fu : Int) ∧ fu ≤ snM z) → ((erC E σ ∨ ¬ lbT N z (ljS z j) (snM z) (paS z j)) ↔ (erC E s0 ∨ ¬ lbT N z (ljS z j) fu x9)) →  K n 5 [(0, .inr (.inr (some (E 3)))), (1, .inr (.inr (some p1))), (2, .inr (.inr (opA B x9)))] [] s0 := by
    intro n
    induction n using Nat.strongRecOn with
    | _ n ih =>
      intro s0 x9 fu hF0 h1 h5
      have hSs_0 := SsC.fr hSs hF0 rfl
      have hNm_0 := NmC.fr hNm hF0 rfl
      have op_0 : SlC A B s0 z j p1 ∧ p1 < cnC s0 := by rw [hp]; exact hSs_0.1 j hj
      refine hB _ _ _ _ _ (fun m51 hm51 => ?_)
      dsimp only [ucgo, ucwp, ucsC, uqC, uoC, ctC, rfd, KX3_judgeLabel, KX3_judgeLabel_0, KX3_judgeLabel_5, KX3_judgeLabel_9, KX3_judgeLabel_18, KX3_judgeLabel_33, KX3_judgeLabel_46, KX3_judgeLabel_54, lkC, s1C, s2C, dlC, kyC, Nat.beq, Nat.ble, rcd, rno, rsw, Nat.reduceAdd, Nat.reduceBEq, Nat.reduceDiv, List.drop, List.take, List.reverse, List.reverseAux, Int.toNat, Option.toList, List.append, List.cons_append, List.nil_append, zg121, zg270, zg273, zg280]
      refine ⟨fun h52 => ?_, fun b52 h52 => ?_⟩
      · have hx52 := opA_nn ((Eq.refl (opA B x9)).symm.trans h52)
        refine hB _ _ _ _ _ (fun m53 hm53 => ?_)
        dsimp only [ucgo, ucwp, ucsC, uqC, uoC, ctC, rfd, KX3_judgeLabel, KX3_judgeLabel_0, KX3_judgeLabel_5, KX3_judgeLabel_9, KX3_judgeLabel_18, KX3_judgeLabel_33, KX3_judgeLabel_46, KX3_judgeLabel_54, lkC, s1C, s2C, dlC, kyC, Nat.beq, Nat.ble, rcd, rno, rsw, Nat.reduceAdd, Nat.reduceBEq, Nat.reduceDiv, List.drop, List.take, List.reverse, List.reverseAux, Int.toNat, Option.toList, List.append, List.cons_append, List.nil_append, zg121, zg270, zg273, zg280]
        try dsimp only [Qz_judgeLabel]
        exact fun τ9 h9 => ⟨rfl, (er_we h9).trans ((iff_e (lb_neg (by assumption))).symm.trans h5.symm)⟩
      · obtain ⟨j52, hj52, hb52⟩ := opA_j ((Eq.refl (opA B x9)).symm.trans h52)
        have hl52 : j52 < snM z := by omega
        have o54_0 := hSs_0.1 j52 hl52
        obtain ⟨k9, rfl⟩ : ∃ k9, fu = k9 + 1 := ⟨fu - 1, by omega⟩
        rw [hj52] at h1 h5
        refine hB _ _ _ _ _ (fun m55 hm55 => ?_)
        dsimp only [ucgo, ucwp, ucsC, uqC, uoC, ctC, rfd, KX3_judgeLabel, KX3_judgeLabel_0, KX3_judgeLabel_5, KX3_judgeLabel_9, KX3_judgeLabel_18, KX3_judgeLabel_33, KX3_judgeLabel_46, KX3_judgeLabel_54, lkC, s1C, s2C, dlC, kyC, Nat.beq, Nat.ble, rcd, rno, rsw, Nat.reduceAdd, Nat.reduceBEq, Nat.reduceDiv, List.drop, List.take, List.reverse, List.reverseAux, Int.toNat, Option.toList, List.append, List.cons_append, List.nil_append, zg121, zg270, zg273, zg280]
        intro a56 e56 ob56
        obtain rfl : B j52 = a56 := Option.some.inj ((h52.trans (congrArg some hb52)).symm.trans e56)
        have f57 : (fIC s0 (B j52) 270).toInt = kjS z j52 := o54_0.1.1.1
        have c58 : (Int32.ofInt 6).toInt = 6 := by decide
        refine ⟨fun h59 => ?_, fun h59 => ?_⟩
        · have g59 := (neI (x := (fIC s0 (B j52) 270)) (y := (Int32.ofInt 6)) h59 : ¬ ((fIC s0 (B j52) 270) : Int32).toInt = ((Int32.ofInt 6) : Int32).toInt)
          refine hB _ _ _ _ _ (fun m60 hm60 => ?_)
          dsimp only [ucgo, ucwp, ucsC, uqC, uoC, ctC, rfd, KX3_judgeLabel, KX3_judgeLabel_0, KX3_judgeLabel_5, KX3_judgeLabel_9, KX3_judgeLabel_18, KX3_judgeLabel_33, KX3_judgeLabel_46, KX3_judgeLabel_54, lkC, s1C, s2C, dlC, kyC, Nat.beq, Nat.ble, rcd, rno, rsw, Nat.reduceAdd, Nat.reduceBEq, Nat.reduceDiv, List.drop, List.take, List.reverse, List.reverseAux, Int.toNat, Option.toList, List.append, List.cons_append, List.nil_append, zg121, zg270, zg273, zg280]
          intro a61 e61 ob61
          obtain rfl : B j52 = a61 := Option.some.inj ((h52.trans (congrArg some hb52)).symm.trans e61)
          have f62 : (fRC s0 (B j52) 273) = opA B (paS z j52) := o54_0.1.1.2.2.2
          rw [f62]
          exact hW _ 5 [(0, .inr (.inr (some (E 3)))), (1, .inr (.inr (some p1))), (2, .inr (.inr (opA B (paS z j52))))] _ _ _ (List.forall_mem_cons.2 ⟨List.Mem.tail _ (List.Mem.head _), List.forall_mem_cons.2 ⟨List.Mem.tail _ (List.Mem.tail _ (List.Mem.head _)), List.forall_mem_cons.2 ⟨List.Mem.head _, fun _ h => absurd h List.not_mem_nil⟩⟩⟩) (ih _ (by omega) s0 (paS z j52) k9 hF0 (by have := (hwf j52 hl52).1; omega) (h5.trans (or_congr Iff.rfl (not_congr (lb_s.trans ⟨fun q9 => q9.2, fun q9 => ⟨(fun q8 => by omega), q9⟩⟩)))))
        · have g59 := (eqI (x := (fIC s0 (B j52) 270)) (y := (Int32.ofInt 6)) h59 : ((fIC s0 (B j52) 270) : Int32).toInt = ((Int32.ofInt 6) : Int32).toInt)
          refine hB _ _ _ _ _ (fun m63 hm63 => ?_)
          dsimp only [ucgo, ucwp, ucsC, uqC, uoC, ctC, rfd, KX3_judgeLabel, KX3_judgeLabel_0, KX3_judgeLabel_5, KX3_judgeLabel_9, KX3_judgeLabel_18, KX3_judgeLabel_33, KX3_judgeLabel_46, KX3_judgeLabel_54, lkC, s1C, s2C, dlC, kyC, Nat.beq, Nat.ble, rcd, rno, rsw, Nat.reduceAdd, Nat.reduceBEq, Nat.reduceDiv, List.drop, List.take, List.reverse, List.reverseAux, Int.toNat, Option.toList, List.append, List.cons_append, List.nil_append, zg121, zg270, zg273, zg280]
          intro a64 e64 ob64
          cases e64
          have f65 : (fIC s0 p1 280).toInt = ljS z j := op_0.1.2.2.2.2.2.2
          intro a66 e66 ob66
          obtain rfl : B j52 = a66 := Option.some.inj ((h52.trans (congrArg some hb52)).symm.trans e66)
          have f67 : (fIC s0 (B j52) 280).toInt = ljS z j52 := o54_0.1.2.2.2.2.2.2
          intro w68 τ68 o68 q68
          obtain ⟨r68, rfl, hr68, rfl⟩ := q68 (N, E, A, B, V, z) ⟨_, _, rfl, hNm_0⟩
          rw [show ((fIC s0 p1 280) : Int32).toInt = ljS z j by omega, show ((fIC s0 (B j52) 280) : Int32).toInt = ljS z j52 by omega] at hr68
          try dsimp only [Option.toList, List.cons_append, List.nil_append, s1C, s2C, dlC, kyC, Nat.beq, lkC, rcd, rno, rsw]
          refine ⟨fun h69 => ?_, fun h69 => ?_⟩
          · have g69 := (eqI (x := r68) (y := 0) h69 : (r68 : Int32).toInt = (0 : Int32).toInt)
            have z0_ : (0 : Int32).toInt = 0 := rfl
            refine hB _ _ _ _ _ (fun m70 hm70 => ?_)
            dsimp only [ucgo, ucwp, ucsC, uqC, uoC, ctC, rfd, KX3_judgeLabel, KX3_judgeLabel_0, KX3_judgeLabel_5, KX3_judgeLabel_9, KX3_judgeLabel_18, KX3_judgeLabel_33, KX3_judgeLabel_46, KX3_judgeLabel_54, lkC, s1C, s2C, dlC, kyC, Nat.beq, Nat.ble, rcd, rno, rsw, Nat.reduceAdd, Nat.reduceBEq, Nat.reduceDiv, List.drop, List.take, List.reverse, List.reverseAux, Int.toNat, Option.toList, List.append, List.cons_append, List.nil_append, zg121, zg270, zg273, zg280]
            intro a71 e71 ob71
            obtain rfl : B j52 = a71 := Option.some.inj ((h52.trans (congrArg some hb52)).symm.trans e71)
            have f72 : (fRC s0 (B j52) 273) = opA B (paS z j52) := o54_0.1.1.2.2.2
            rw [f72]
            exact hW _ 5 [(0, .inr (.inr (some (E 3)))), (1, .inr (.inr (some p1))), (2, .inr (.inr (opA B (paS z j52))))] _ _ _ (List.forall_mem_cons.2 ⟨List.Mem.tail _ (List.Mem.head _), List.forall_mem_cons.2 ⟨List.Mem.tail _ (List.Mem.tail _ (List.Mem.head _)), List.forall_mem_cons.2 ⟨List.Mem.head _, fun _ h => absurd h List.not_mem_nil⟩⟩⟩) (ih _ (by omega) s0 (paS z j52) k9 hF0 (by have := (hwf j52 hl52).1; omega) (h5.trans (or_congr Iff.rfl (not_congr (lb_s.trans ⟨fun q9 => q9.2, fun q9 => ⟨(fun q8 => by rcases hr68 with q7 | q7; omega; exact q7.2 q8.2.symm), q9⟩⟩)))))
          · have g69 := (neI (x := r68) (y := 0) h69 : ¬ (r68 : Int32).toInt = (0 : Int32).toInt)
            have z0_ : (0 : Int32).toInt = 0 := rfl
            refine hB _ _ _ _ _ (fun m73 hm73 => ?_)
            dsimp only [ucgo, ucwp, ucsC, uqC, uoC, ctC, rfd, KX3_judgeLabel, KX3_judgeLabel_0, KX3_judgeLabel_5, KX3_judgeLabel_9, KX3_judgeLabel_18, KX3_judgeLabel_33, KX3_judgeLabel_46, KX3_judgeLabel_54, lkC, s1C, s2C, dlC, kyC, Nat.beq, Nat.ble, rcd, rno, rsw, Nat.reduceAdd, Nat.reduceBEq, Nat.reduceDiv, List.drop, List.take, List.reverse, List.reverseAux, Int.toNat, Option.toList, List.append, List.cons_append, List.nil_append, zg121, zg270, zg273, zg280]
            intro a74 e74 ob74
            cases e74
            have c76 : (Int32.ofInt 10).toInt = 10 := by decide
            intro a77 e77 ob77
            cases e77
            have f78 : (fIC s0 p1 280).toInt = ljS z j := op_0.1.2.2.2.2.2.2
            rw [hNm_0.1.1]
            try dsimp only
            intro w79 τ79 o79 q79
            obtain ⟨rfl, hb79⟩ := q79 (N, E, A, B, V, z) ⟨_, _, rfl, by omega⟩
            have hF79 : FrE [217, 218] σ τ79 := hF0.tr (o79.2.mo rfl)
            have hSs_79 := SsC.fr hSs hF79 rfl
            have hNm_79 := NmC.fr hNm hF79 rfl
            have op_79 : SlC A B τ79 z j p1 ∧ p1 < cnC τ79 := by rw [hp]; exact hSs_79.1 j hj
            have o54_79 := hSs_79.1 j52 hl52
            try dsimp only [Option.toList, List.cons_append, List.nil_append, s1C, s2C, dlC, kyC, Nat.beq, lkC, rcd, rno, rsw]
            refine hB _ _ _ _ _ (fun m80 hm80 => ?_)
            dsimp only [ucgo, ucwp, ucsC, uqC, uoC, ctC, rfd, KX3_judgeLabel, KX3_judgeLabel_0, KX3_judgeLabel_5, KX3_judgeLabel_9, KX3_judgeLabel_18, KX3_judgeLabel_33, KX3_judgeLabel_46, KX3_judgeLabel_54, lkC, s1C, s2C, dlC, kyC, Nat.beq, Nat.ble, rcd, rno, rsw, Nat.reduceAdd, Nat.reduceBEq, Nat.reduceDiv, List.drop, List.take, List.reverse, List.reverseAux, Int.toNat, Option.toList, List.append, List.cons_append, List.nil_append, zg121, zg270, zg273, zg280]
            intro a81 e81 ob81
            obtain rfl : B j52 = a81 := Option.some.inj ((h52.trans (congrArg some hb52)).symm.trans e81)
            have f82 : (fRC τ79 (B j52) 273) = opA B (paS z j52) := o54_79.1.1.2.2.2
            rw [f82]
            exact hW _ 5 [(0, .inr (.inr (some (E 3)))), (1, .inr (.inr (some p1))), (2, .inr (.inr (opA B (paS z j52))))] _ _ _ (List.forall_mem_cons.2 ⟨List.Mem.tail _ (List.Mem.head _), List.forall_mem_cons.2 ⟨List.Mem.tail _ (List.Mem.tail _ (List.Mem.head _)), List.forall_mem_cons.2 ⟨List.Mem.head _, fun _ h => absurd h List.not_mem_nil⟩⟩⟩) (ih _ (by omega) τ79 (paS z j52) k9 hF79 (by have := (hwf j52 hl52).1; omega) (iff_of_true (h5.mpr (Or.inr (fun q9 => (lb_s.mp q9).1 ⟨by omega, by rcases hr68 with q8 | q8; exact q8.2.symm; exact absurd q8.1 (by omega)⟩))) (Or.inl hb79)))
  change K n_ 0 [(0, .inr (.inr (some (E 3)))), (1, .inr (.inr (some p1)))] [] σ
  refine hB _ _ _ _ _ (fun m83 hm83 => ?_)
  dsimp only [ucgo, ucwp, ucsC, uqC, uoC, ctC, rfd, KX3_judgeLabel, KX3_judgeLabel_0, KX3_judgeLabel_5, KX3_judgeLabel_9, KX3_judgeLabel_18, KX3_judgeLabel_33, KX3_judgeLabel_46, KX3_judgeLabel_54, lkC, s1C, s2C, dlC, kyC, Nat.beq, Nat.ble, rcd, rno, rsw, Nat.reduceAdd, Nat.reduceBEq, Nat.reduceDiv, List.drop, List.take, List.reverse, List.reverseAux, Int.toNat, Option.toList, List.append, List.cons_append, List.nil_append, zg121, zg270, zg273, zg280]
  intro a84 e84 ob84
  cases e84
  have f85 : (fRC σ p1 273) = opA B (paS z j) := op.1.1.2.2.2
  rw [f85]
  exact hW _ 5 [(0, .inr (.inr (some (E 3)))), (1, .inr (.inr (some p1))), (2, .inr (.inr (opA B (paS z j))))] _ _ _ (List.forall_mem_cons.2 ⟨List.Mem.tail _ (List.Mem.head _), List.forall_mem_cons.2 ⟨List.Mem.tail _ (List.Mem.tail _ (List.Mem.head _)), List.forall_mem_cons.2 ⟨List.Mem.head _, fun _ h => absurd h List.not_mem_nil⟩⟩⟩) (L5 _ σ (paS z j) (snM z) FrE.rf (by have := (hwf j hj).1; omega) Iff.rfl)
theorem wz_judgeLabel : ∀ (L : Nat) (As : List AvC) (σ : CsC) (w : Option AvC) (τ : CsC), EvF L 85 As σ w τ → Uz_judgeLabel As σ w τ := by
  intro L
  cases L with
  | zero => exact fun _ _ _ _ h => h.elim
  | succ L => exact fun As σ w τ h y hy => EvF.us (cs := [84, 118]) (pz_judgeLabel y) rfl (List.forall_mem_cons.2 ⟨wz_isSameName L, List.forall_mem_cons.2 ⟨wz_tell L, fun _ h => absurd h List.not_mem_nil⟩⟩) h hy
