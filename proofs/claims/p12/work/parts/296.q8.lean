theorem stv_z : ∀ j, j < 43 → (stvC.getD j 0).toInt = strZ (j : Int) := by decide
theorem opv_z : ∀ j, j < 11 → (opvC.getD j 0).toInt = opfZ ((j : Int) + 9) := by decide
theorem XoC.lk {N : Int → Int} {A : Nat → Nat} {σ : CsC} {x : XrZ} {i o : Nat} {v : Int32} {lv : Int} (h : XoC N A σ x i o) (hv : v.toInt = lv) : XoC N A (pIC σ o 67 v) (x.1, (x.2.1.1, lv, x.2.1.2.2), x.2.2) i o := by
  obtain ⟨⟨⟨a1, a2, a3, a4⟩, ⟨b1, b2, b3⟩, c⟩, ⟨d1, d2, d3⟩, e1, e2⟩ := h
  exact ⟨⟨⟨by rw [pI_n (by decide)]; exact a1, by rw [pI_n (by decide)]; exact a2, by rw [pI_n (by decide)]; exact a3, by rw [pI_n (by decide)]; exact a4⟩, ⟨by rw [pI_n (by decide)]; exact b1, by rw [pI_e]; exact hv, by rw [pI_n (by decide)]; exact b3⟩, c⟩, ⟨by rw [pI_n (by decide)]; exact d1, by rw [pI_n (by decide)]; exact d2, d3⟩, by rw [pI_n (by decide)]; exact e1, by rw [pI_n (by decide)]; exact e2⟩
theorem XoC.mq {N : Int → Int} {A : Nat → Nat} {σ : CsC} {x : XrZ} {i o : Nat} {v : Option Nat} {mv : Int} (h : XoC N A σ x i o) (hv : v = opA A mv) : XoC N A (pRC σ o 76 v) (x.1, x.2.1, (x.2.2.1.1, x.2.2.1.2.1, x.2.2.1.2.2.1, x.2.2.1.2.2.2.1, mv), x.2.2.2) i o := by
  obtain ⟨⟨a, b, ⟨c1, c2, c3, c4⟩⟩, d, e1, e2⟩ := h
  exact ⟨⟨a, b, ⟨(pR_n (by decide)).trans c1, (pR_n (by decide)).trans c2, (pR_n (by decide)).trans c3, pR_e.trans hv⟩⟩, d, e1, e2⟩
/-- the latest exp of the list is put right -/
theorem FzC.tq {n m : Nat} {E A A' B B' V V' : Nat → Nat} {z zz : ZS} {x x' : XrZ} {σ τ υ : CsC} (h : FzC n m E A A' B B' V V' z (puM x zz) σ τ) (hl : xnM z ≤ xnM zz) (hs : x'.2.2.1.1 = x.2.2.1.1) (f : XfE τ υ) (ha : ∀ a, a ≠ A' (xnM zz) → ∀ k, fIC υ a k = fIC τ a k ∧ fLC υ a k = fLC τ a k ∧ fRC υ a k = fRC τ a k) : FzC n m E A A' B B' V V' z (puM x' zz) σ υ := by
  obtain ⟨p1, p2, ⟨⟨p3, p4⟩, p5⟩, p6, p7, p8, p9⟩ := h
  have hn : n ≤ A' (xnM zz) := (p5 (xnM zz) hl (Nat.lt_succ_self _)).1
  refine ⟨by rw [f.2.2]; exact p1, fun o ho k hk => ?_, ⟨⟨p3, fun i hi => ⟨(p4 i hi).1, ?_⟩⟩, fun i h1 h2 => ?_⟩, p6, p7, p8, fun j hj => by rw [f.2.1.1]; exact p9 j hj⟩
  · have q := p2 o ho k hk
    have r := ha o (by omega) k
    exact ⟨r.1.trans q.1, r.2.1.trans q.2.1, r.2.2.trans q.2.2⟩
  · rw [xth_o (by omega)]
    have q := (p4 i hi).2
    rw [xth_o (by omega)] at q
    exact q
  · have q := p5 i h1 h2
    have h2 : i < xnM zz + 1 := h2
    by_cases c : i < xnM zz
    · rw [xth_o c] at q ⊢
      exact q
    · obtain rfl : i = xnM zz := by omega
      rw [xth_n] at q ⊢
      exact ⟨q.1, by rw [hs]; exact q.2⟩
theorem gd_c2 {E C : SpC → SpC} (hE : GdY E) (hC : GdY C) : GdY (ch2Y E C) := by
  intro s
  unfold ch2Y
  split
  · exact (((gd_acc s).tr (hE _)).tr (gd_xp _)).tr (hC _)
  · exact GpY.rf
abbrev Pz_strength : ((Int → Int) × (Nat → Nat) × (Nat → Nat) × (Nat → Nat) × (Nat → Nat) × ZS) → CpC := fun y As σ => match y with
  | (N, E, A, B, V, z) => ∃ (p0 : Int32), As = [.inl p0]
abbrev Qz_strength : ((Int → Int) × (Nat → Nat) × (Nat → Nat) × (Nat → Nat) × (Nat → Nat) × ZS) → CqC := fun y As σ w τ => match y, As with
  | (N, E, A, B, V, z), [.inl p0] => ∃ r, w = some (.inl r) ∧ r.toInt = strZ p0.toInt ∧ σ = τ
  | _, _ => True
abbrev Uz_strength : CqC := fun As σ w τ => ∀ y, Pz_strength y As σ → Qz_strength y As σ w τ
set_option maxHeartbeats 4000000 in
theorem pz_strength (y : (Int → Int) × (Nat → Nat) × (Nat → Nat) × (Nat → Nat) × (Nat → Nat) × ZS) : PbC KX11_strength [] [] (fun As σ => Pz_strength y As σ ∧ cnC σ ≤ 1000000 ∧ ∃ w τ, uqC quL 225 As σ w τ) (Qz_strength y) := by
  obtain ⟨N, E, A, B, V, z⟩ := y
  rintro As σ ⟨⟨p0, rfl⟩, hcn, _, _, hQ⟩ K hB hW n_
  change K n_ 0 [(0, .inl p0)] [] σ
  refine hB _ _ _ _ _ (fun m51 hm51 => ?_)
  dsimp only [ucgo, ucwp, ucsC, uqC, uoC, ctC, rfd, KX11_strength, KX11_strength_0, KX11_strength_4, KX11_strength_12, KX11_strength_20, KX11_strength_21, lkC, s1C, s2C, dlC, kyC, Nat.beq, Nat.ble, rcd, rno, rsw, Nat.reduceAdd, Nat.reduceBEq, Nat.reduceDiv, List.drop, List.take, List.reverse, List.reverseAux, Int.toNat, Option.toList, List.append, List.cons_append, List.nil_append]
  refine ⟨fun h52 => ?_, fun h52 => ?_⟩
  · have g52 := ltI (x := p0) (y := 0) h52
    have z0_ : (0 : Int32).toInt = 0 := rfl
    refine hB _ _ _ _ _ (fun m53 hm53 => ?_)
    dsimp only [ucgo, ucwp, ucsC, uqC, uoC, ctC, rfd, KX11_strength, KX11_strength_0, KX11_strength_4, KX11_strength_12, KX11_strength_20, KX11_strength_21, lkC, s1C, s2C, dlC, kyC, Nat.beq, Nat.ble, rcd, rno, rsw, Nat.reduceAdd, Nat.reduceBEq, Nat.reduceDiv, List.drop, List.take, List.reverse, List.reverseAux, Int.toNat, Option.toList, List.append, List.cons_append, List.nil_append]
    have c54 : (Int32.ofInt 0).toInt = 0 := by decide
    refine hB _ _ _ _ _ (fun m55 hm55 => ?_)
    dsimp only [ucgo, ucwp, ucsC, uqC, uoC, ctC, rfd, KX11_strength, KX11_strength_0, KX11_strength_4, KX11_strength_12, KX11_strength_20, KX11_strength_21, lkC, s1C, s2C, dlC, kyC, Nat.beq, Nat.ble, rcd, rno, rsw, Nat.reduceAdd, Nat.reduceBEq, Nat.reduceDiv, List.drop, List.take, List.reverse, List.reverseAux, Int.toNat, Option.toList, List.append, List.cons_append, List.nil_append]
    try dsimp only [Qz_strength]
    refine ⟨_, rfl, ?_, rfl⟩
    unfold strZ
    rw [if_neg (by omega), if_neg (by omega), if_neg (by omega), if_neg (by omega), if_neg (by omega), if_neg (by omega), if_neg (by omega), if_neg (by omega), if_neg (by omega), if_neg (by omega)]
    omega
  · have g52 := nltI (x := p0) (y := 0) h52
    have z0_ : (0 : Int32).toInt = 0 := rfl
    refine hB _ _ _ _ _ (fun m56 hm56 => ?_)
    dsimp only [ucgo, ucwp, ucsC, uqC, uoC, ctC, rfd, KX11_strength, KX11_strength_0, KX11_strength_4, KX11_strength_12, KX11_strength_20, KX11_strength_21, lkC, s1C, s2C, dlC, kyC, Nat.beq, Nat.ble, rcd, rno, rsw, Nat.reduceAdd, Nat.reduceBEq, Nat.reduceDiv, List.drop, List.take, List.reverse, List.reverseAux, Int.toNat, Option.toList, List.append, List.cons_append, List.nil_append]
    intro a57 e57
    cases e57
    refine ⟨fun l57 _ _ _ => absurd l57 (by omega), fun n57 l57_ => ?_⟩
    obtain rfl : n57 = 43 := by omega
    have c57 : (nI 43).toInt = 43 := by decide
    refine ⟨fun h58 => ?_, fun h58 => ?_⟩
    · have g58 := leI (x := (nI 43)) (y := p0) h58
      refine hB _ _ _ _ _ (fun m59 hm59 => ?_)
      dsimp only [ucgo, ucwp, ucsC, uqC, uoC, ctC, rfd, KX11_strength, KX11_strength_0, KX11_strength_4, KX11_strength_12, KX11_strength_20, KX11_strength_21, lkC, s1C, s2C, dlC, kyC, Nat.beq, Nat.ble, rcd, rno, rsw, Nat.reduceAdd, Nat.reduceBEq, Nat.reduceDiv, List.drop, List.take, List.reverse, List.reverseAux, Int.toNat, Option.toList, List.append, List.cons_append, List.nil_append]
      have c60 : (Int32.ofInt 0).toInt = 0 := by decide
      refine hB _ _ _ _ _ (fun m61 hm61 => ?_)
      dsimp only [ucgo, ucwp, ucsC, uqC, uoC, ctC, rfd, KX11_strength, KX11_strength_0, KX11_strength_4, KX11_strength_12, KX11_strength_20, KX11_strength_21, lkC, s1C, s2C, dlC, kyC, Nat.beq, Nat.ble, rcd, rno, rsw, Nat.reduceAdd, Nat.reduceBEq, Nat.reduceDiv, List.drop, List.take, List.reverse, List.reverseAux, Int.toNat, Option.toList, List.append, List.cons_append, List.nil_append]
      try dsimp only [Qz_strength]
      refine ⟨_, rfl, ?_, rfl⟩
      unfold strZ
      rw [if_neg (by omega), if_neg (by omega), if_neg (by omega), if_neg (by omega), if_neg (by omega), if_neg (by omega), if_neg (by omega), if_neg (by omega), if_neg (by omega), if_neg (by omega)]
      omega
    · have g58 := nleI (x := (nI 43)) (y := p0) h58
      refine hB _ _ _ _ _ (fun m62 hm62 => ?_)
      dsimp only [ucgo, ucwp, ucsC, uqC, uoC, ctC, rfd, KX11_strength, KX11_strength_0, KX11_strength_4, KX11_strength_12, KX11_strength_20, KX11_strength_21, lkC, s1C, s2C, dlC, kyC, Nat.beq, Nat.ble, rcd, rno, rsw, Nat.reduceAdd, Nat.reduceBEq, Nat.reduceDiv, List.drop, List.take, List.reverse, List.reverseAux, Int.toNat, Option.toList, List.append, List.cons_append, List.nil_append]
      intro a63 e63
      cases e63
      refine ⟨fun t63 _ => absurd t63.1 (by omega), fun y63 => ?_, fun y63 => ?_⟩
      case refine_2 => exact absurd y63 (by decide)
      intro v63
      refine hB _ _ _ _ _ (fun m64 hm64 => ?_)
      dsimp only [ucgo, ucwp, ucsC, uqC, uoC, ctC, rfd, KX11_strength, KX11_strength_0, KX11_strength_4, KX11_strength_12, KX11_strength_20, KX11_strength_21, lkC, s1C, s2C, dlC, kyC, Nat.beq, Nat.ble, rcd, rno, rsw, Nat.reduceAdd, Nat.reduceBEq, Nat.reduceDiv, List.drop, List.take, List.reverse, List.reverseAux, Int.toNat, Option.toList, List.append, List.cons_append, List.nil_append]
      try dsimp only [Qz_strength]
      exact ⟨_, rfl, (stv_z _ (by rw [nT_toNat]; omega)).trans (congrArg strZ (by rw [nT_toNat]; omega)), rfl⟩
theorem wz_strength : ∀ (L : Nat) (As : List AvC) (σ : CsC) (w : Option AvC) (τ : CsC), EvF L 225 As σ w τ → Uz_strength As σ w τ := by
  intro L
  cases L with
  | zero => exact fun _ _ _ _ h => h.elim
  | succ L => exact fun As σ w τ h y hy => EvF.us (cs := []) (pz_strength y) rfl (fun _ h => absurd h List.not_mem_nil) h hy
abbrev Pz_operatorOf : ((Int → Int) × (Nat → Nat) × (Nat → Nat) × (Nat → Nat) × (Nat → Nat) × ZS) → CpC := fun y As σ => match y with
  | (N, E, A, B, V, z) => ∃ (p0 : Int32), As = [.inl p0] ∧ (0 ≤ p0.toInt ∧ p0.toInt ≤ 100)
abbrev Qz_operatorOf : ((Int → Int) × (Nat → Nat) × (Nat → Nat) × (Nat → Nat) × (Nat → Nat) × ZS) → CqC := fun y As σ w τ => match y, As with
  | (N, E, A, B, V, z), [.inl p0] => ∃ r, w = some (.inl r) ∧ r.toInt = opfZ p0.toInt ∧ σ = τ
  | _, _ => True
abbrev Uz_operatorOf : CqC := fun As σ w τ => ∀ y, Pz_operatorOf y As σ → Qz_operatorOf y As σ w τ
set_option maxHeartbeats 4000000 in
theorem pz_operatorOf (y : (Int → Int) × (Nat → Nat) × (Nat → Nat) × (Nat → Nat) × (Nat → Nat) × ZS) : PbC KX11_operatorOf [] [] (fun As σ => Pz_operatorOf y As σ ∧ cnC σ ≤ 1000000 ∧ ∃ w τ, uqC quL 226 As σ w τ) (Qz_operatorOf y) := by
  obtain ⟨N, E, A, B, V, z⟩ := y
  rintro As σ ⟨⟨p0, rfl, hp0⟩, hcn, _, _, hQ⟩ K hB hW n_
  change K n_ 0 [(0, .inl p0)] [] σ
  refine hB _ _ _ _ _ (fun m51 hm51 => ?_)
  dsimp only [ucgo, ucwp, ucsC, uqC, uoC, ctC, rfd, KX11_operatorOf, KX11_operatorOf_0, KX11_operatorOf_11, KX11_operatorOf_19, KX11_operatorOf_27, KX11_operatorOf_28, lkC, s1C, s2C, dlC, kyC, Nat.beq, Nat.ble, rcd, rno, rsw, Nat.reduceAdd, Nat.reduceBEq, Nat.reduceDiv, List.drop, List.take, List.reverse, List.reverseAux, Int.toNat, Option.toList, List.append, List.cons_append, List.nil_append]
  have c52 : (Int32.ofInt 8).toInt = 8 := by decide
  have u53 := tiC p0
  have a53 : (p0 - (Int32.ofInt 8)).toInt = p0.toInt - 8 := subC (by omega) (by omega) (by omega)
  have c54 : (Int32.ofInt 1).toInt = 1 := by decide
  have u55 := tiC (p0 - (Int32.ofInt 8))
  have a55 : ((p0 - (Int32.ofInt 8)) - (Int32.ofInt 1)).toInt = (p0.toInt - 8) - 1 := subC (by omega) (by omega) (by omega)
  refine ⟨fun h56 => ?_, fun h56 => ?_⟩
  · have g56 := ltI (x := ((p0 - (Int32.ofInt 8)) - (Int32.ofInt 1))) (y := 0) h56
    have z0_ : (0 : Int32).toInt = 0 := rfl
    refine hB _ _ _ _ _ (fun m57 hm57 => ?_)
    dsimp only [ucgo, ucwp, ucsC, uqC, uoC, ctC, rfd, KX11_operatorOf, KX11_operatorOf_0, KX11_operatorOf_11, KX11_operatorOf_19, KX11_operatorOf_27, KX11_operatorOf_28, lkC, s1C, s2C, dlC, kyC, Nat.beq, Nat.ble, rcd, rno, rsw, Nat.reduceAdd, Nat.reduceBEq, Nat.reduceDiv, List.drop, List.take, List.reverse, List.reverseAux, Int.toNat, Option.toList, List.append, List.cons_append, List.nil_append]
    refine hB _ _ _ _ _ (fun m58 hm58 => ?_)
    dsimp only [ucgo, ucwp, ucsC, uqC, uoC, ctC, rfd, KX11_operatorOf, KX11_operatorOf_0, KX11_operatorOf_11, KX11_operatorOf_19, KX11_operatorOf_27, KX11_operatorOf_28, lkC, s1C, s2C, dlC, kyC, Nat.beq, Nat.ble, rcd, rno, rsw, Nat.reduceAdd, Nat.reduceBEq, Nat.reduceDiv, List.drop, List.take, List.reverse, List.reverseAux, Int.toNat, Option.toList, List.append, List.cons_append, List.nil_append]
    try dsimp only [Qz_operatorOf]
    refine ⟨_, rfl, ?_, rfl⟩
    unfold opfZ
    rw [if_neg (by omega), if_neg (by omega), if_neg (by omega), if_neg (by omega), if_neg (by omega), if_neg (by omega), if_neg (by omega), if_neg (by omega), if_neg (by omega), if_neg (by omega), if_neg (by omega)]
  · have g56 := nltI (x := ((p0 - (Int32.ofInt 8)) - (Int32.ofInt 1))) (y := 0) h56
    have z0_ : (0 : Int32).toInt = 0 := rfl
    refine hB _ _ _ _ _ (fun m59 hm59 => ?_)
    dsimp only [ucgo, ucwp, ucsC, uqC, uoC, ctC, rfd, KX11_operatorOf, KX11_operatorOf_0, KX11_operatorOf_11, KX11_operatorOf_19, KX11_operatorOf_27, KX11_operatorOf_28, lkC, s1C, s2C, dlC, kyC, Nat.beq, Nat.ble, rcd, rno, rsw, Nat.reduceAdd, Nat.reduceBEq, Nat.reduceDiv, List.drop, List.take, List.reverse, List.reverseAux, Int.toNat, Option.toList, List.append, List.cons_append, List.nil_append]
    intro a60 e60
    cases e60
    refine ⟨fun l60 _ _ _ => absurd l60 (by omega), fun n60 l60_ => ?_⟩
    obtain rfl : n60 = 11 := by omega
    have c60 : (nI 11).toInt = 11 := by decide
    refine ⟨fun h61 => ?_, fun h61 => ?_⟩
    · have g61 := leI (x := (nI 11)) (y := ((p0 - (Int32.ofInt 8)) - (Int32.ofInt 1))) h61
      refine hB _ _ _ _ _ (fun m62 hm62 => ?_)
      dsimp only [ucgo, ucwp, ucsC, uqC, uoC, ctC, rfd, KX11_operatorOf, KX11_operatorOf_0, KX11_operatorOf_11, KX11_operatorOf_19, KX11_operatorOf_27, KX11_operatorOf_28, lkC, s1C, s2C, dlC, kyC, Nat.beq, Nat.ble, rcd, rno, rsw, Nat.reduceAdd, Nat.reduceBEq, Nat.reduceDiv, List.drop, List.take, List.reverse, List.reverseAux, Int.toNat, Option.toList, List.append, List.cons_append, List.nil_append]
      refine hB _ _ _ _ _ (fun m63 hm63 => ?_)
      dsimp only [ucgo, ucwp, ucsC, uqC, uoC, ctC, rfd, KX11_operatorOf, KX11_operatorOf_0, KX11_operatorOf_11, KX11_operatorOf_19, KX11_operatorOf_27, KX11_operatorOf_28, lkC, s1C, s2C, dlC, kyC, Nat.beq, Nat.ble, rcd, rno, rsw, Nat.reduceAdd, Nat.reduceBEq, Nat.reduceDiv, List.drop, List.take, List.reverse, List.reverseAux, Int.toNat, Option.toList, List.append, List.cons_append, List.nil_append]
      try dsimp only [Qz_operatorOf]
      refine ⟨_, rfl, ?_, rfl⟩
      unfold opfZ
      rw [if_neg (by omega), if_neg (by omega), if_neg (by omega), if_neg (by omega), if_neg (by omega), if_neg (by omega), if_neg (by omega), if_neg (by omega), if_neg (by omega), if_neg (by omega), if_neg (by omega)]
    · have g61 := nleI (x := (nI 11)) (y := ((p0 - (Int32.ofInt 8)) - (Int32.ofInt 1))) h61
      refine hB _ _ _ _ _ (fun m64 hm64 => ?_)
      dsimp only [ucgo, ucwp, ucsC, uqC, uoC, ctC, rfd, KX11_operatorOf, KX11_operatorOf_0, KX11_operatorOf_11, KX11_operatorOf_19, KX11_operatorOf_27, KX11_operatorOf_28, lkC, s1C, s2C, dlC, kyC, Nat.beq, Nat.ble, rcd, rno, rsw, Nat.reduceAdd, Nat.reduceBEq, Nat.reduceDiv, List.drop, List.take, List.reverse, List.reverseAux, Int.toNat, Option.toList, List.append, List.cons_append, List.nil_append]
      intro a65 e65
      cases e65
      refine ⟨fun t65 _ => absurd t65.1 (by omega), fun y65 => ?_, fun y65 => ?_⟩
      case refine_1 => exact absurd y65 (by decide)
      intro v65
      refine hB _ _ _ _ _ (fun m66 hm66 => ?_)
      dsimp only [ucgo, ucwp, ucsC, uqC, uoC, ctC, rfd, KX11_operatorOf, KX11_operatorOf_0, KX11_operatorOf_11, KX11_operatorOf_19, KX11_operatorOf_27, KX11_operatorOf_28, lkC, s1C, s2C, dlC, kyC, Nat.beq, Nat.ble, rcd, rno, rsw, Nat.reduceAdd, Nat.reduceBEq, Nat.reduceDiv, List.drop, List.take, List.reverse, List.reverseAux, Int.toNat, Option.toList, List.append, List.cons_append, List.nil_append]
      try dsimp only [Qz_operatorOf]
      exact ⟨_, rfl, (opv_z _ (by rw [nT_toNat]; omega)).trans (congrArg opfZ (by rw [nT_toNat]; omega)), rfl⟩
theorem wz_operatorOf : ∀ (L : Nat) (As : List AvC) (σ : CsC) (w : Option AvC) (τ : CsC), EvF L 226 As σ w τ → Uz_operatorOf As σ w τ := by
  intro L
  cases L with
  | zero => exact fun _ _ _ _ h => h.elim
  | succ L => exact fun As σ w τ h y hy => EvF.us (cs := []) (pz_operatorOf y) rfl (fun _ h => absurd h List.not_mem_nil) h hy
set_option maxHeartbeats 4000000 in
theorem pz_readAssignment (y : (Int → Int) × (Nat → Nat) × (Nat → Nat) × (Nat → Nat) × (Nat → Nat) × ZS × Nat) : PbC KX7_readAssignment [(126, TrP, EqC 126), (226, TrP, EqC 226), (162, TrP, EqC 162), (140, TrP, EqC 140), (128, TrP, EqC 128), (164, TrP, EqC 164), (161, TrP, EqC 161), (163, TrP, EqC 163)] [(126, Uz_codeBehind), (226, Uz_operatorOf), (162, Uz_opened), (140, Uz_meant), (128, Uz_accept), (164, Uz_readExp), (161, Uz_put), (163, Uz_putMark)] (fun As σ => Pz_readAssignment y As σ ∧ cnC σ ≤ 1000000 ∧ ∃ w τ, uqC quL 165 As σ w τ) (Qz_readAssignment y) := by
  obtain ⟨N, E, A, B, V, z, n⟩ := y
  rintro As σ ⟨⟨p1, rfl, hZ, hd, hn, hc80, hft⟩, hcn, _, _, hQ⟩ K hB hW n_
  have hH : HI0 σ ∧ TyC σ (E 0) 8 := hQ
  have hat := hZ.at0 hH
  obtain ⟨m, rfl⟩ : ∃ m, n = m + 1 := ⟨n - 1, by omega⟩
  have hfe : zFt (eM N m (accM (accM (tkM N z)))).1 = 0 := hft
  have hfe2 : zFt (eY m (accY (accY z.1))) = 0 := by
    have h9 := hfe
    rw [lf_e] at h9
    have e9 : (accM (accM (tkM N z))).1 = accY (accY z.1) := by show accY (accY (tkM N z).1) = _; rw [lf_tk]
    rw [e9] at h9
    exact h9
  have hf2 : zFt (accY (accY z.1)) = 0 := (gd_e _).z hfe2
  have hf1 : zFt (accY z.1) = 0 := (gd_acc _).z hf2
  have t1 : cobY z.1 = 8 → tkM N z = z ∧ tmM z = -1 := fun q => ⟨if_pos q, if_pos q⟩
  have t2 : ¬ cobY z.1 = 8 → tkM N z = puM (takZ (lkM N z (zAt z.1)) (xnM z) z.1) z ∧ tmM z = (xnM z : Int) := fun q => ⟨if_neg q, if_neg q⟩
  change K n_ 0 [(0, .inr (.inr (some (E 0)))), (1, .inl p1)] [] σ
  refine hB _ _ _ _ _ (fun m51 hm51 => ?_)
  dsimp only [ucgo, ucwp, ucsC, uqC, uoC, ctC, rfd, KX7_readAssignment, KX7_readAssignment_0, KX7_readAssignment_34, KX7_readAssignment_56, lkC, s1C, s2C, dlC, kyC, Nat.beq, Nat.ble, rcd, rno, rsw, Nat.reduceAdd, Nat.reduceBEq, Nat.reduceDiv, List.drop, List.take, List.reverse, List.reverseAux, Int.toNat, Option.toList, List.append, List.cons_append, List.nil_append, zg67, zg76, zg242]
  intro w52 τ52 o52 q52
  obtain ⟨c52, rfl, hc52, rfl⟩ := q52 (N, E, A, B, V, z) ⟨rfl, hZ⟩
  try dsimp only [Option.toList, List.cons_append, List.nil_append, s1C, s2C, dlC, kyC, Nat.beq, lkC, rcd, rno, rsw]
  have c53 : (Int32.ofInt 9).toInt = 9 := by decide
  intro w54 τ54 o54 q54
  obtain ⟨r54, rfl, hr54, rfl⟩ := q54 (N, E, A, B, V, z) ⟨_, rfl, by omega⟩
  have hr54 : r54.toInt = opfZ (cobY z.1) := hr54.trans (congrArg opfZ (by omega))
  try dsimp only [Option.toList, List.cons_append, List.nil_append, s1C, s2C, dlC, kyC, Nat.beq, lkC, rcd, rno, rsw]
  intro w55 τ55 o55 q55
  obtain ⟨rfl, hZ55, hf55, hnw55⟩ := q55 (N, E, A, B, V, z, 9, (opfZ (cobY z.1))) ⟨_, _, rfl, hZ, by omega, by omega⟩
  have hF55 := FzC.tr (FzC.rf (n := cnC σ) (m := xnM z) (E := E) (A := A) (B := B) (V := V) (z := z) (σ := σ)) (FzC.mo hf55 (Nat.le_refl (cnC σ)) ((FzC.rf (n := cnC σ) (m := xnM z) (E := E) (A := A) (B := B) (V := V) (z := z) (σ := σ))).2.2.1.1.1)
  have hL55 := LsX.fz (LsX.nil (N := N) (A := A) (n0 := cnC σ) (σ := σ) (z := z)) hf55
  have hle55 : cnC σ ≤ cnC τ55 := Nat.le_trans (Nat.le_refl (cnC σ)) (hf55).1
  have hLn55 : LsX N A (cnC σ) τ55 z [((cnC σ), (recZ 9 (opfZ (cobY z.1)) (zAt z.1) 0 (zAt z.1) (-1) 0 (xnM z) (-1) (-1) (-1) (-1) []), none)] := LsX.nw hL55 (fun q hq => ((LsX.nil (N := N) (A := A) (n0 := cnC σ) (σ := σ) (z := z)).1 q hq).1.2.1) hnw55 (Nat.le_refl (cnC σ)) opX_o (by show ¬ ((9 : Int) = 0 ∨ (9 : Int) = 1); omega) (fun i hi => (hZ.2.2.2.1.1.2 i hi).2)
  try dsimp only [Option.toList, List.cons_append, List.nil_append, s1C, s2C, dlC, kyC, Nat.beq, lkC, rcd, rno, rsw]
  intro a56 e56 ob56
  cases e56
  have f57 : (fIC τ55 (E 0) 242).toInt = zAt z.1 := hZ55.2.1.1.1
  intro w58 τ58 o58 q58
  obtain ⟨r58, rfl, hr58, hZ58, hf58, hmn58⟩ := q58 (N, E, A, B, V, z, (zAt z.1)) ⟨_, rfl, hZ55, by omega, by omega⟩
  have hF58 := FzC.tr hF55 (FzC.mo hf58 hle55 (hF55).2.2.1.1.1)
  have hL58 := LsX.fz hLn55 hf58
  have hle58 : cnC σ ≤ cnC τ58 := Nat.le_trans hle55 (hf58).1
  try dsimp only [Option.toList, List.cons_append, List.nil_append, s1C, s2C, dlC, kyC, Nat.beq, lkC, rcd, rno, rsw]
  intro a59 e59 ob59 fk59
  cases e59
  clear fk59 ob59
  generalize hs59 : pIC τ58 (cnC σ) 67 r58 = s59
  have hx59 : XfE τ58 s59 := by rw [← hs59]; exact XfE.pI (by decide)
  have hra59 : ∀ a, a ≠ (cnC σ) → ∀ k, fIC s59 a k = fIC τ58 a k ∧ fLC s59 a k = fLC τ58 a k ∧ fRC s59 a k = fRC τ58 a k := by rw [← hs59]; exact rI_a
  have hZ59 := ZC.lo hZ58 hL58 hx59 hra59
  have hF59 := FzC.tr hF58 (FzC.lo (n := cnC σ) (m := xnM z) (E := E) (B := B) (V := V) hL58 (Nat.le_refl _) hx59 hra59)
  have hL59 : LsX N A (cnC σ) s59 z [((cnC σ), (recZ 9 (opfZ (cobY z.1)) (zAt z.1) 0 (zAt z.1) (lkM N z (zAt z.1)) 0 (xnM z) (-1) (-1) (-1) (-1) []), none)] := by rw [← hs59]; exact LsX.s67 hL58 (by omega)
  have hle59 : cnC σ ≤ cnC s59 := by rw [hx59.2.2]; exact hle58
  have c60 : (Int32.ofInt 8).toInt = 8 := by decide
  refine ⟨fun h61 => ?_, fun h61 => ?_⟩
  · have g61 := (eqI (x := c52) (y := (Int32.ofInt 8)) h61 : (c52 : Int32).toInt = ((Int32.ofInt 8) : Int32).toInt)
    refine hB _ _ _ _ _ (fun m62 hm62 => ?_)
    dsimp only [ucgo, ucwp, ucsC, uqC, uoC, ctC, rfd, KX7_readAssignment, KX7_readAssignment_0, KX7_readAssignment_34, KX7_readAssignment_56, lkC, s1C, s2C, dlC, kyC, Nat.beq, Nat.ble, rcd, rno, rsw, Nat.reduceAdd, Nat.reduceBEq, Nat.reduceDiv, List.drop, List.take, List.reverse, List.reverseAux, Int.toNat, Option.toList, List.append, List.cons_append, List.nil_append, zg67, zg76, zg242]
    intro w63 τ63 o63 q63
    obtain ⟨rfl, hZ63, hf63⟩ := q63 (N, E, A, B, V, z) ⟨rfl, hZ59, (show zFt (accY z.1) = 0 from hf1)⟩
    have hF63 := FzC.tr hF59 (FzC.mo hf63 hle59 (hF59).2.2.1.1.1)
    have hL63 := LsX.fz hL59 hf63
    have hle63 : cnC σ ≤ cnC τ63 := Nat.le_trans hle59 (hf63).1
    try dsimp only [Option.toList, List.cons_append, List.nil_append, s1C, s2C, dlC, kyC, Nat.beq, lkC, rcd, rno, rsw]
    intro w64 τ64 o64 q64
    obtain ⟨rfl, hZ64, hf64⟩ := q64 (N, E, A, B, V, (accM z)) ⟨rfl, hZ63, (show zFt (accY (accY z.1)) = 0 from hf2)⟩
    have hF64 := FzC.tr hF63 (FzC.mo hf64 hle63 (hF63).2.2.1.1.1)
    have hL64 := LsX.fz hL63 hf64
    have hle64 : cnC σ ≤ cnC τ64 := Nat.le_trans hle63 (hf64).1
    try dsimp only [Option.toList, List.cons_append, List.nil_append, s1C, s2C, dlC, kyC, Nat.beq, lkC, rcd, rno, rsw]
    have c65 : (Int32.ofInt 1).toInt = 1 := by decide
    have u66 := tiC p1
    have a66 : (p1 + (Int32.ofInt 1)).toInt = p1.toInt + 1 := addC (by omega) (by omega) (by omega)
    intro w67 τ67 o67 q67
    obtain ⟨A67, rfl, hZ67, hf67, ht67, hx67⟩ : ExQ N E A B V (accM (accM z)) (eM N m (accM (accM z))) τ64 w67 τ67 := q67 (N, E, A, B, V, (accM (accM z)), m) ⟨_, rfl, hZ64, by omega, (by have h9 := hfe; rw [(t1 (by omega)).1] at h9; exact h9)⟩
    have hF67 := FzC.tr hF64 (FzC.mo hf67 hle64 (hF64).2.2.1.1.1)
    have hL67 := LsX.fz hL64 hf67
    have hle67 : cnC σ ≤ cnC τ67 := Nat.le_trans hle64 (hf67).1
    try dsimp only [Option.toList, List.cons_append, List.nil_append, s1C, s2C, dlC, kyC, Nat.beq, lkC, rcd, rno, rsw]
    intro a68 e68 ob68 fk68
    cases e68
    clear fk68 ob68
    generalize hs68 : pRC τ67 (cnC σ) 73 (some (A67 (xnM (eM N m (accM (accM z))) - 1))) = s68
    have hx68 : XfE τ67 s68 := by rw [← hs68]; exact XfE.pR (by decide)
    have hra68 : ∀ a, a ≠ (cnC σ) → ∀ k, fIC s68 a k = fIC τ67 a k ∧ fLC s68 a k = fLC τ67 a k ∧ fRC s68 a k = fRC τ67 a k := by rw [← hs68]; exact rR_a
    have hZ68 := ZC.lo hZ67 hL67 hx68 hra68
    have hF68 := FzC.tr hF67 (FzC.lo (n := cnC σ) (m := xnM z) (E := E) (B := B) (V := V) hL67 (Nat.le_refl _) hx68 hra68)
    have hL68 : LsX N A67 (cnC σ) s68 (eM N m (accM (accM z))) [((cnC σ), (recZ 9 (opfZ (cobY z.1)) (zAt z.1) 0 (zAt z.1) (lkM N z (zAt z.1)) 0 (xnM z) (-1) ((xnM (eM N m (accM (accM z))) : Int) - 1) (-1) (-1) []), none)] := by rw [← hs68]; exact LsX.s73 hL67 (opA_p (by omega)).symm (by omega)
    have hle68 : cnC σ ≤ cnC s68 := by rw [hx68.2.2]; exact hle67
    intro w69 τ69 o69 q69
    have hh69 := LsX.hd hL68
    obtain ⟨rfl, hZ69, hpo69, hnx69⟩ := q69 (N, E, A67, B, V, (eM N m (accM (accM z))), (recZ 9 (opfZ (cobY z.1)) (zAt z.1) (zAt (eM N m (accM (accM z))).1 - 1) (zAt z.1) (lkM N z (zAt z.1)) 0 (xnM z) (-1) ((xnM (eM N m (accM (accM z))) : Int) - 1) (-1) (-1) [])) ⟨_, rfl, hZ68, ⟨hh69.1.1.2, hh69.1.2.1, hh69.1.2.2.1⟩, rfl, ⟨fun a ha => absurd ha List.not_mem_nil, trivial⟩⟩
    have hnx69 := hnx69.trans hh69.1.2.2.2
    have hF69 := FzC.tr hF68 (FzC.pu (x := (recZ 9 (opfZ (cobY z.1)) (zAt z.1) (zAt (eM N m (accM (accM z))).1 - 1) (zAt z.1) (lkM N z (zAt z.1)) 0 (xnM z) (-1) ((xnM (eM N m (accM (accM z))) : Int) - 1) (-1) (-1) [])) hpo69 hh69.1.1.1 hle68 (Int.le_refl _) hZ68.1.2.2.2.2.2.1.2.1)
    have hL69 := LsX.pu (x := (recZ 9 (opfZ (cobY z.1)) (zAt z.1) (zAt (eM N m (accM (accM z))).1 - 1) (zAt z.1) (lkM N z (zAt z.1)) 0 (xnM z) (-1) ((xnM (eM N m (accM (accM z))) : Int) - 1) (-1) (-1) [])) hh69.2.1 hpo69 hh69.2.2
    have hle69 : cnC σ ≤ cnC τ69 := Nat.le_trans hle68 hpo69.1
    try dsimp only [Option.toList, List.cons_append, List.nil_append, s1C, s2C, dlC, kyC, Nat.beq, lkC, rcd, rno, rsw]
    try dsimp only [Qz_readAssignment]
    exact ExQ.pu (by show aseM (lkM N z (zAt z.1)) (cobY z.1) (rbM z) (tmM z) (eM N m (accM (accM (tkM N z)))) = _; rw [(t1 (by omega)).1, (t1 (by omega)).2]; rfl) hZ69 hF69 hnx69 rfl rfl (by have := hx67; have e8 : xnM (accM (accM z)) = xnM z := rfl; first | omega | (have e7 : xnM (accM (accM (puM (takZ (lkM N z (zAt z.1)) (xnM z) z.1) z))) = xnM z + 1 := rfl; omega))
  · have g61 := (neI (x := c52) (y := (Int32.ofInt 8)) h61 : ¬ (c52 : Int32).toInt = ((Int32.ofInt 8) : Int32).toInt)
    refine hB _ _ _ _ _ (fun m70 hm70 => ?_)
    dsimp only [ucgo, ucwp, ucsC, uqC, uoC, ctC, rfd, KX7_readAssignment, KX7_readAssignment_0, KX7_readAssignment_34, KX7_readAssignment_56, lkC, s1C, s2C, dlC, kyC, Nat.beq, Nat.ble, rcd, rno, rsw, Nat.reduceAdd, Nat.reduceBEq, Nat.reduceDiv, List.drop, List.take, List.reverse, List.reverseAux, Int.toNat, Option.toList, List.append, List.cons_append, List.nil_append, zg67, zg76, zg242]
    have c71 : (Int32.ofInt 14).toInt = 14 := by decide
    intro w72 τ72 o72 q72
    obtain ⟨rfl, hZ72, hf72, hnk72⟩ := q72 (N, E, A, B, V, z, 14, (cobY z.1)) ⟨_, _, rfl, hZ59, by omega, by omega, by omega⟩
    have hF72 := FzC.tr hF59 (FzC.mo hf72 hle59 (hF59).2.2.1.1.1)
    have hL72 := LsX.fz hL59 hf72
    have hle72 : cnC σ ≤ cnC τ72 := Nat.le_trans hle59 (hf72).1
    try dsimp only [Option.toList, List.cons_append, List.nil_append, s1C, s2C, dlC, kyC, Nat.beq, lkC, rcd, rno, rsw]
    intro a73 e73 ob73 fk73
    cases e73
    clear fk73 ob73
    generalize hs73 : pRC τ72 (cnC σ) 76 (some (cnC s59)) = s73
    have hx73 : XfE τ72 s73 := by rw [← hs73]; exact XfE.pR (by decide)
    have hra73 : ∀ a, a ≠ (cnC σ) → ∀ k, fIC s73 a k = fIC τ72 a k ∧ fLC s73 a k = fLC τ72 a k ∧ fRC s73 a k = fRC τ72 a k := by rw [← hs73]; exact rR_a
    have hZ73 := ZC.lo hZ72 hL72 hx73 hra73
    have hF73 := FzC.tr hF72 (FzC.lo (n := cnC σ) (m := xnM z) (E := E) (B := B) (V := V) hL72 (Nat.le_refl _) hx73 hra73)
    have hL73 : LsX N (upA A (xnM z) (cnC s59)) (cnC σ) s73 (puM (mkX 14 (cobY z.1) z) z) [((cnC σ), (recZ 9 (opfZ (cobY z.1)) (zAt z.1) 0 (zAt z.1) (lkM N z (zAt z.1)) 0 (xnM z) (-1) (-1) (-1) (xnM z : Int) []), none)] := by rw [← hs73]; exact LsX.s76 hL72 (by rw [opA_k, upA_e]) (by show (xnM z : Int) < ((xnM z + 1 : Nat) : Int); omega)
    have hle73 : cnC σ ≤ cnC s73 := by rw [hx73.2.2]; exact hle72
    intro a74 e74 ob74
    cases e74
    intro a75 e75 ob75
    cases e75
    have f76 : (fIC s73 (cnC σ) 67).toInt = (lkM N z (zAt z.1)) := (LsX.hd hL73).1.2.1.2.1.2.1
    intro a77 e77 ob77 fk77
    obtain rfl : cnC s59 = a77 := Option.some.inj (((LsX.hd hL73).1.2.1.2.2.2.2.2.trans (show opA (upA A (xnM z) (cnC s59)) (xnM z : Int) = some (cnC s59) by rw [opA_k, upA_e])).symm.trans e77)
    clear fk77 ob77
    generalize hs77 : pIC s73 (cnC s59) 67 (fIC s73 (cnC σ) 67) = s77
    have hx77 : XfE s73 s77 := by rw [← hs77]; exact XfE.pI (by decide)
    have eo77 : (upA A (xnM z) (cnC s59)) (xnM z) = (cnC s59) := upA_e
    have hra77 : ∀ a, a ≠ (upA A (xnM z) (cnC s59)) (xnM z) → ∀ k, fIC s77 a k = fIC s73 a k ∧ fLC s77 a k = fLC s73 a k ∧ fRC s77 a k = fRC s73 a k := by rw [eo77, ← hs77]; exact rI_a
    have hZ77 : ZC N E (upA A (xnM z) (cnC s59)) B V s77 (puM (takZ (lkM N z (zAt z.1)) (xnM z) z.1) z) := by
      refine ZC.tp (z := puM (mkX 14 (cobY z.1) z) z) (x := (mkX 14 (cobY z.1) z)) (x' := (takZ (lkM N z (zAt z.1)) (xnM z) z.1)) (l := (z).2.1) hZ73 rfl hx77 (fun i hi k => hra77 _ (fun q => absurd (hZ73.inj (i := i) (j := xnM z) (Nat.lt_succ_of_lt hi) (Nat.lt_succ_self _) q) (Nat.ne_of_lt hi)) k) ⟨?_, ?_⟩ ⟨rfl, rfl⟩
      · have q := (hZ73.2.2.2.2.1.1 (xnM z) (Nat.lt_succ_self _)).1
        rw [xth_n] at q
        show XoC N (upA A (xnM z) (cnC s59)) s77 (takZ (lkM N z (zAt z.1)) (xnM z) z.1) (xnM z) ((upA A (xnM z) (cnC s59)) (xnM z))
        rw [eo77] at q ⊢
        rw [← hs77]
        exact q.lk (by omega)
      · show oprX (takZ (lkM N z (zAt z.1)) (xnM z) z.1) _; unfold oprX takZ recZ; dsimp only; omega
    have hF77 : FzC (cnC σ) (xnM z) E A (upA A (xnM z) (cnC s59)) B B V V z (puM (takZ (lkM N z (zAt z.1)) (xnM z) z.1) z) σ s77 := FzC.tq hF73 (Nat.le_refl _) rfl hx77 hra77
    have hL77 := LsX.z (z' := puM (takZ (lkM N z (zAt z.1)) (xnM z) z.1) z) (LsX.xf (τ := s77) hL73 (fun q hq k => hra77 _ (fun e => (hL73.1 q hq).1.2.2.2 (xnM z) (Nat.lt_succ_self _) e.symm) k) (Nat.le_of_eq hx77.2.2.symm)) rfl
    have hle77 : cnC σ ≤ cnC s77 := by rw [hx77.2.2]; exact hle73
    refine hB _ _ _ _ _ (fun m78 hm78 => ?_)
    dsimp only [ucgo, ucwp, ucsC, uqC, uoC, ctC, rfd, KX7_readAssignment, KX7_readAssignment_0, KX7_readAssignment_34, KX7_readAssignment_56, lkC, s1C, s2C, dlC, kyC, Nat.beq, Nat.ble, rcd, rno, rsw, Nat.reduceAdd, Nat.reduceBEq, Nat.reduceDiv, List.drop, List.take, List.reverse, List.reverseAux, Int.toNat, Option.toList, List.append, List.cons_append, List.nil_append, zg67, zg76, zg242]
    intro w79 τ79 o79 q79
    obtain ⟨rfl, hZ79, hf79⟩ := q79 (N, E, (upA A (xnM z) (cnC s59)), B, V, (puM (takZ (lkM N z (zAt z.1)) (xnM z) z.1) z)) ⟨rfl, hZ77, (show zFt (accY z.1) = 0 from hf1)⟩
    have hF79 := FzC.tr hF77 (FzC.mo hf79 hle77 (hF77).2.2.1.1.1)
    have hL79 := LsX.fz hL77 hf79
    have hle79 : cnC σ ≤ cnC τ79 := Nat.le_trans hle77 (hf79).1
    try dsimp only [Option.toList, List.cons_append, List.nil_append, s1C, s2C, dlC, kyC, Nat.beq, lkC, rcd, rno, rsw]
    intro w80 τ80 o80 q80
    obtain ⟨rfl, hZ80, hf80⟩ := q80 (N, E, (upA A (xnM z) (cnC s59)), B, V, (accM (puM (takZ (lkM N z (zAt z.1)) (xnM z) z.1) z))) ⟨rfl, hZ79, (show zFt (accY (accY z.1)) = 0 from hf2)⟩
    have hF80 := FzC.tr hF79 (FzC.mo hf80 hle79 (hF79).2.2.1.1.1)
    have hL80 := LsX.fz hL79 hf80
    have hle80 : cnC σ ≤ cnC τ80 := Nat.le_trans hle79 (hf80).1
    try dsimp only [Option.toList, List.cons_append, List.nil_append, s1C, s2C, dlC, kyC, Nat.beq, lkC, rcd, rno, rsw]
    have c81 : (Int32.ofInt 1).toInt = 1 := by decide
    have u82 := tiC p1
    have a82 : (p1 + (Int32.ofInt 1)).toInt = p1.toInt + 1 := addC (by omega) (by omega) (by omega)
    intro w83 τ83 o83 q83
    obtain ⟨A83, rfl, hZ83, hf83, ht83, hx83⟩ : ExQ N E (upA A (xnM z) (cnC s59)) B V (accM (accM (puM (takZ (lkM N z (zAt z.1)) (xnM z) z.1) z))) (eM N m (accM (accM (puM (takZ (lkM N z (zAt z.1)) (xnM z) z.1) z)))) τ80 w83 τ83 := q83 (N, E, (upA A (xnM z) (cnC s59)), B, V, (accM (accM (puM (takZ (lkM N z (zAt z.1)) (xnM z) z.1) z))), m) ⟨_, rfl, hZ80, by omega, (by have h9 := hfe; rw [(t2 (by omega)).1] at h9; exact h9)⟩
    have hF83 := FzC.tr hF80 (FzC.mo hf83 hle80 (hF80).2.2.1.1.1)
    have hL83 := LsX.fz hL80 hf83
    have hle83 : cnC σ ≤ cnC τ83 := Nat.le_trans hle80 (hf83).1
    try dsimp only [Option.toList, List.cons_append, List.nil_append, s1C, s2C, dlC, kyC, Nat.beq, lkC, rcd, rno, rsw]
    intro a84 e84 ob84 fk84
    cases e84
    clear fk84 ob84
    generalize hs84 : pRC τ83 (cnC σ) 73 (some (A83 (xnM (eM N m (accM (accM (puM (takZ (lkM N z (zAt z.1)) (xnM z) z.1) z)))) - 1))) = s84
    have hx84 : XfE τ83 s84 := by rw [← hs84]; exact XfE.pR (by decide)
    have hra84 : ∀ a, a ≠ (cnC σ) → ∀ k, fIC s84 a k = fIC τ83 a k ∧ fLC s84 a k = fLC τ83 a k ∧ fRC s84 a k = fRC τ83 a k := by rw [← hs84]; exact rR_a
    have hZ84 := ZC.lo hZ83 hL83 hx84 hra84
    have hF84 := FzC.tr hF83 (FzC.lo (n := cnC σ) (m := xnM z) (E := E) (B := B) (V := V) hL83 (Nat.le_refl _) hx84 hra84)
    have hL84 : LsX N A83 (cnC σ) s84 (eM N m (accM (accM (puM (takZ (lkM N z (zAt z.1)) (xnM z) z.1) z)))) [((cnC σ), (recZ 9 (opfZ (cobY z.1)) (zAt z.1) 0 (zAt z.1) (lkM N z (zAt z.1)) 0 (xnM z) (-1) ((xnM (eM N m (accM (accM (puM (takZ (lkM N z (zAt z.1)) (xnM z) z.1) z)))) : Int) - 1) (-1) (xnM z : Int) []), none)] := by rw [← hs84]; exact LsX.s73 hL83 (opA_p (by omega)).symm (by omega)
    have hle84 : cnC σ ≤ cnC s84 := by rw [hx84.2.2]; exact hle83
    intro w85 τ85 o85 q85
    have hh85 := LsX.hd hL84
    obtain ⟨rfl, hZ85, hpo85, hnx85⟩ := q85 (N, E, A83, B, V, (eM N m (accM (accM (puM (takZ (lkM N z (zAt z.1)) (xnM z) z.1) z)))), (recZ 9 (opfZ (cobY z.1)) (zAt z.1) (zAt (eM N m (accM (accM (puM (takZ (lkM N z (zAt z.1)) (xnM z) z.1) z)))).1 - 1) (zAt z.1) (lkM N z (zAt z.1)) 0 (xnM z) (-1) ((xnM (eM N m (accM (accM (puM (takZ (lkM N z (zAt z.1)) (xnM z) z.1) z)))) : Int) - 1) (-1) (xnM z : Int) [])) ⟨_, rfl, hZ84, ⟨hh85.1.1.2, hh85.1.2.1, hh85.1.2.2.1⟩, rfl, ⟨fun a ha => absurd ha List.not_mem_nil, trivial⟩⟩
    have hnx85 := hnx85.trans hh85.1.2.2.2
    have hF85 := FzC.tr hF84 (FzC.pu (x := (recZ 9 (opfZ (cobY z.1)) (zAt z.1) (zAt (eM N m (accM (accM (puM (takZ (lkM N z (zAt z.1)) (xnM z) z.1) z)))).1 - 1) (zAt z.1) (lkM N z (zAt z.1)) 0 (xnM z) (-1) ((xnM (eM N m (accM (accM (puM (takZ (lkM N z (zAt z.1)) (xnM z) z.1) z)))) : Int) - 1) (-1) (xnM z : Int) [])) hpo85 hh85.1.1.1 hle84 (Int.le_refl _) hZ84.1.2.2.2.2.2.1.2.1)
    have hL85 := LsX.pu (x := (recZ 9 (opfZ (cobY z.1)) (zAt z.1) (zAt (eM N m (accM (accM (puM (takZ (lkM N z (zAt z.1)) (xnM z) z.1) z)))).1 - 1) (zAt z.1) (lkM N z (zAt z.1)) 0 (xnM z) (-1) ((xnM (eM N m (accM (accM (puM (takZ (lkM N z (zAt z.1)) (xnM z) z.1) z)))) : Int) - 1) (-1) (xnM z : Int) [])) hh85.2.1 hpo85 hh85.2.2
    have hle85 : cnC σ ≤ cnC τ85 := Nat.le_trans hle84 hpo85.1
    try dsimp only [Option.toList, List.cons_append, List.nil_append, s1C, s2C, dlC, kyC, Nat.beq, lkC, rcd, rno, rsw]
    try dsimp only [Qz_readAssignment]
    exact ExQ.pu (by show aseM (lkM N z (zAt z.1)) (cobY z.1) (rbM z) (tmM z) (eM N m (accM (accM (tkM N z)))) = _; rw [(t2 (by omega)).1, (t2 (by omega)).2]; rfl) hZ85 hF85 hnx85 rfl rfl (by have := hx83; have e8 : xnM (accM (accM z)) = xnM z := rfl; first | omega | (have e7 : xnM (accM (accM (puM (takZ (lkM N z (zAt z.1)) (xnM z) z.1) z))) = xnM z + 1 := rfl; omega))
set_option maxHeartbeats 4000000 in
theorem pz_readChoice (y : (Int → Int) × (Nat → Nat) × (Nat → Nat) × (Nat → Nat) × (Nat → Nat) × ZS × Nat) : PbC KX7_readChoice [(234, TrP, EqC 234), (167, TrP, EqC 167), (125, TrP, EqC 125), (17, TrP, EqC 17), (163, TrP, EqC 163), (128, TrP, EqC 128), (164, TrP, EqC 164), (129, TrP, EqC 129), (131, TrP, EqC 131), (166, TrP, EqC 166), (161, TrP, EqC 161), (162, TrP, EqC 162)] [(167, Uz_readChain), (125, Uz_code), (17, Uz_Exp), (163, Uz_putMark), (128, Uz_accept), (164, Uz_readExp), (129, Uz_expect), (131, Uz_isTooDeep), (166, Uz_readChoice), (161, Uz_put), (162, Uz_opened)] (fun As σ => Pz_readChoice y As σ ∧ cnC σ ≤ 1000000 ∧ ∃ w τ, uqC quL 166 As σ w τ) (Qz_readChoice y) := by
  obtain ⟨N, E, A, B, V, z, n⟩ := y
  rintro As σ ⟨⟨p1, rfl, hZ, hd, hn, hft⟩, hcn, _, _, hQ⟩ K hB hW n_
  have hH : HI0 σ ∧ TyC σ (E 0) 8 := hQ
  have hat := hZ.at0 hH
  obtain ⟨m, rfl⟩ : ∃ m, n = m + 1 := ⟨n - 1, by omega⟩
  have ech : chM N (m + 1) z = ch2M (eM N m) (cM N m) (rbM z) (chlM (opM N (m + 1) 0) 501 [] (rbM z) (opM N (m + 1) 0 z)) := rfl
  rw [ech] at hft
  obtain ⟨zc, hzc⟩ : ∃ t, t = (chlM (opM N (m + 1) 0) 501 [] (rbM z) (opM N (m + 1) 0 z)) := ⟨_, rfl⟩
  rw [← hzc] at hft ech
  have d1 : ¬ codY zc.1 = 7 → ch2M (eM N m) (cM N m) (rbM z) zc = zc := fun q => if_neg q
  have d2 : codY zc.1 = 7 → ch2M (eM N m) (cM N m) (rbM z) zc = ch3M (cM N m) (rbM z) ((xnM zc : Int) - 1) (xnM zc) (eM N m (accM (puM (thnZ (xnM zc) zc.1) zc))) := fun q => if_pos q
  have hfc : zFt zc.1 = 0 := by
    have h9 : zFt (ch2Y (eY m) (cY m) zc.1) = 0 := by rw [← lf_ch2 (lf_e (N := N)) (lf_c (N := N)) (rbM z) zc]; exact hft
    exact (gd_c2 gd_e gd_c _).z h9
  have k3 : codY zc.1 = 7 → zFt (cM N m (xpM 6 (puM (elsZ (xnM zc) (xnM (eM N m (accM (puM (thnZ (xnM zc) zc.1) zc)))) (eM N m (accM (puM (thnZ (xnM zc) zc.1) zc))).1) (eM N m (accM (puM (thnZ (xnM zc) zc.1) zc)))))).1 = 0 := fun q => by
    have h9 := hft
    rw [d2 q] at h9
    exact h9
  have k4 : codY zc.1 = 7 → zFt (xpM 6 (puM (elsZ (xnM zc) (xnM (eM N m (accM (puM (thnZ (xnM zc) zc.1) zc)))) (eM N m (accM (puM (thnZ (xnM zc) zc.1) zc))).1) (eM N m (accM (puM (thnZ (xnM zc) zc.1) zc))))).1 = 0 := fun q => by
    have h9 := k3 q
    rw [lf_c] at h9
    exact (gd_c _).z h9
  have k5 : codY zc.1 = 7 → zFt (eM N m (accM (puM (thnZ (xnM zc) zc.1) zc))).1 = 0 := fun q => (gd_xp (c := 6) _).z (k4 q)
  have k6 : codY zc.1 = 7 → zFt (accM (puM (thnZ (xnM zc) zc.1) zc)).1 = 0 := fun q => by
    have h9 := k5 q
    rw [lf_e] at h9
    exact (gd_e _).z h9
  have k7 : codY zc.1 = 7 → 1 ≤ m := fun q => Classical.byContradiction (fun q2 => by
    have e9 : m = 0 := by omega
    have h9 := k3 q
    rw [e9] at h9
    exact raiY_z (by decide) h9)
  change K n_ 0 [(0, .inr (.inr (some (E 0)))), (1, .inl p1)] [] σ
  refine hB _ _ _ _ _ (fun m51 hm51 => ?_)
  dsimp only [ucgo, ucwp, ucsC, uqC, uoC, ctC, rfd, KX7_readChoice, KX7_readChoice_0, KX7_readChoice_32, KX7_readChoice_35, KX7_readChoice_124, KX7_readChoice_133, KX7_readChoice_140, lkC, s1C, s2C, dlC, kyC, Nat.beq, Nat.ble, rcd, rno, rsw, Nat.reduceAdd, Nat.reduceBEq, Nat.reduceDiv, List.drop, List.take, List.reverse, List.reverseAux, Int.toNat, Option.toList, List.append, List.cons_append, List.nil_append, zg76, zg213, zg240, zg242]
  intro a52 e52 ob52
  cases e52
  have f53 : (fIC σ (E 0) 242).toInt = zAt z.1 := hZ.2.1.1.1
  intro a54 e54 ob54
  cases e54
  intro a55 e55 ob55
  obtain rfl : E 1 = a55 := Option.some.inj (hZ.1.1.1.symm.trans e55)
  rw [hZ.1.2.1.2.2.1]
  try dsimp only
  intro w56 τ56 o56 q56
  obtain ⟨r56, rfl, rfl, hr56a, hr56b, hr56, -⟩ := (show Q_Jx4a65c_size_8abf5 [.inr (.inr (some (E 213)))] σ w56 τ56 from o56.1.1)
  have hv56 : r56.toInt = (xnM z : Int) := by rw [← hr56]; exact hZ.2.2.2.1.1.1
  try dsimp only [Option.toList, List.cons_append, List.nil_append, s1C, s2C, dlC, kyC, Nat.beq, lkC, rcd, rno, rsw]
  intro w57 τ57 o57 q57
  obtain ⟨A57, rfl, hZ57, hf57, ht57, hx57⟩ : ExQ N E A B V z (chlM (opM N (m + 1) 0) 501 [] (rbM z) (opM N (m + 1) 0 z)) σ w57 τ57 := q57 (N, E, A, B, V, z, (m + 1)) ⟨_, rfl, hZ, by omega, by omega, (by rw [← hzc]; exact hfc)⟩
  have hF57 := FzC.tr (FzC.rf (n := cnC σ) (m := xnM z) (E := E) (A := A) (B := B) (V := V) (z := z) (σ := σ)) (FzC.mo hf57 (Nat.le_refl (cnC σ)) ((FzC.rf (n := cnC σ) (m := xnM z) (E := E) (A := A) (B := B) (V := V) (z := z) (σ := σ))).2.2.1.1.1)
  have hL57 := LsX.fz (LsX.nil (N := N) (A := A) (n0 := cnC σ) (σ := σ) (z := z)) hf57
  have hle57 : cnC σ ≤ cnC τ57 := Nat.le_trans (Nat.le_refl (cnC σ)) (hf57).1
  rw [← hzc] at hZ57 hf57 ht57 hx57 hF57 hL57
  have hxc : xnM z < xnM zc := hx57
  rw [← hzc]
  try dsimp only [Option.toList, List.cons_append, List.nil_append, s1C, s2C, dlC, kyC, Nat.beq, lkC, rcd, rno, rsw]
  intro w58 τ58 o58 q58
  obtain ⟨c58, rfl, hc58, rfl⟩ := q58 (N, E, A57, B, V, zc) ⟨rfl, hZ57⟩
  try dsimp only [Option.toList, List.cons_append, List.nil_append, s1C, s2C, dlC, kyC, Nat.beq, lkC, rcd, rno, rsw]
  have c59 : (Int32.ofInt 7).toInt = 7 := by decide
  refine ⟨fun h60 => ?_, fun h60 => ?_⟩
  · have g60 := (eqI (x := c58) (y := (Int32.ofInt 7)) h60 : (c58 : Int32).toInt = ((Int32.ofInt 7) : Int32).toInt)
    refine hB _ _ _ _ _ (fun m61 hm61 => ?_)
    dsimp only [ucgo, ucwp, ucsC, uqC, uoC, ctC, rfd, KX7_readChoice, KX7_readChoice_0, KX7_readChoice_32, KX7_readChoice_35, KX7_readChoice_124, KX7_readChoice_133, KX7_readChoice_140, lkC, s1C, s2C, dlC, kyC, Nat.beq, Nat.ble, rcd, rno, rsw, Nat.reduceAdd, Nat.reduceBEq, Nat.reduceDiv, List.drop, List.take, List.reverse, List.reverseAux, Int.toNat, Option.toList, List.append, List.cons_append, List.nil_append, zg76, zg213, zg240, zg242]
    generalize hs62 : nOC τ57 52 (nfC 2) 0 = s62
    have hZ62 : ZC N E A57 B V s62 zc := ZC.nw hZ57 (fun a ha k => by rw [← hs62]; exact nO_a (Nat.ne_of_lt ha)) (by rw [← hs62]; exact ⟨rfl, rfl, rfl⟩) (by rw [← hs62]; exact Nat.le_succ _)
    have c63 : (Int32.ofInt 8).toInt = 8 := by decide
    have c64 : (Int32.ofInt 7).toInt = 7 := by decide
    intro w65 τ65 o65 q65
    obtain ⟨rfl, hi65⟩ := q65 (N, E, A57, B, V, zc) ⟨_, _, _, _, _, rfl⟩
    obtain ⟨hnw65, hg65, hg2_65⟩ := NwX.mk (A := A57) (kk := 8) (ss := 7) (ff := (zAt z.1)) (tt := (xnM z : Int)) hs62 hi65 (by omega) (by omega) (by omega) (by omega)
    have hZ65 := ZC.nw hZ57 hg65 hg2_65 (by rw [hnw65.1.2]; exact Nat.le_succ _)
    have hf65 : FzC (cnC τ57) (xnM zc) E A57 A57 B B V V zc zc τ57 τ65 := FzC.nw hg65 hg2_65.1 (by rw [hnw65.1.2]; exact Nat.le_succ _) (Nat.le_refl _)
    have hF65 := FzC.tr hF57 (FzC.mo hf65 hle57 (hF57).2.2.1.1.1)
    have hL65 := LsX.fz hL57 hf65
    have hle65 : cnC σ ≤ cnC τ65 := Nat.le_trans hle57 (hf65).1
    have hLn65 : LsX N A57 (cnC σ) τ65 zc [((cnC τ57), (recZ 8 7 (zAt z.1) 0 (zAt z.1) (-1) 0 (xnM z : Int) (-1) (-1) (-1) (-1) []), none)] := LsX.nw hL65 (fun q hq => (hL57.1 q hq).1.2.1) hnw65 hle57 (by unfold oprX recZ; dsimp only; omega) (by show ¬ ((8 : Int) = 0 ∨ (8 : Int) = 1); omega) (fun i hi => (hZ57.2.2.2.1.1.2 i hi).2)
    try dsimp only [Option.toList, List.cons_append, List.nil_append, s1C, s2C, dlC, kyC, Nat.beq, lkC, rcd, rno, rsw]
    intro a66 e66 ob66 fk66
    cases e66
    clear fk66 ob66
    generalize hs66 : pRC τ65 (cnC τ57) 72 (some (A57 (xnM zc - 1))) = s66
    have hx66 : XfE τ65 s66 := by rw [← hs66]; exact XfE.pR (by decide)
    have hra66 : ∀ a, a ≠ (cnC τ57) → ∀ k, fIC s66 a k = fIC τ65 a k ∧ fLC s66 a k = fLC τ65 a k ∧ fRC s66 a k = fRC τ65 a k := by rw [← hs66]; exact rR_a
    have hZ66 := ZC.lo hZ65 hLn65 hx66 hra66
    have hF66 := FzC.tr hF65 (FzC.lo (n := cnC σ) (m := xnM z) (E := E) (B := B) (V := V) hLn65 (Nat.le_refl _) hx66 hra66)
    have hL66 : LsX N A57 (cnC σ) s66 zc [((cnC τ57), (recZ 8 7 (zAt z.1) 0 (zAt z.1) (-1) 0 (xnM z : Int) ((xnM zc : Int) - 1) (-1) (-1) (-1) []), none)] := by rw [← hs66]; exact LsX.s72 hLn65 (opA_p (by omega)).symm (by omega)
    have hle66 : cnC σ ≤ cnC s66 := by rw [hx66.2.2]; exact hle65
    have c67 : (Int32.ofInt 12).toInt = 12 := by decide
    have c68 : (Int32.ofInt 7).toInt = 7 := by decide
    intro w69 τ69 o69 q69
    obtain ⟨rfl, hZ69, hf69, hnk69⟩ := q69 (N, E, A57, B, V, zc, 12, 7) ⟨_, _, rfl, hZ66, by omega, by omega, by omega⟩
    have hZ69 : ZC N E (upA A57 (xnM zc) (cnC s66)) B V τ69 (puM (thnZ (xnM zc) zc.1) zc) := hZ69
    have hF69 := FzC.tr hF66 (FzC.mo hf69 hle66 (hF66).2.2.1.1.1)
    have hL69 := LsX.fz hL66 hf69
    have hle69 : cnC σ ≤ cnC τ69 := Nat.le_trans hle66 (hf69).1
    try dsimp only [Option.toList, List.cons_append, List.nil_append, s1C, s2C, dlC, kyC, Nat.beq, lkC, rcd, rno, rsw]
    intro w70 τ70 o70 q70
    obtain ⟨rfl, hZ70, hf70⟩ := q70 (N, E, (upA A57 (xnM zc) (cnC s66)), B, V, (puM (thnZ (xnM zc) zc.1) zc)) ⟨rfl, hZ69, (k6 (by omega))⟩
    have hF70 := FzC.tr hF69 (FzC.mo hf70 hle69 (hF69).2.2.1.1.1)
    have hL70 := LsX.fz hL69 hf70
    have hle70 : cnC σ ≤ cnC τ70 := Nat.le_trans hle69 (hf70).1
    try dsimp only [Option.toList, List.cons_append, List.nil_append, s1C, s2C, dlC, kyC, Nat.beq, lkC, rcd, rno, rsw]
    have c71 : (Int32.ofInt 1).toInt = 1 := by decide
    have u72 := tiC p1
    have a72 : (p1 + (Int32.ofInt 1)).toInt = p1.toInt + 1 := addC (by omega) (by omega) (by omega)
    intro w73 τ73 o73 q73
    obtain ⟨A73, rfl, hZ73, hf73, ht73, hx73⟩ : ExQ N E (upA A57 (xnM zc) (cnC s66)) B V (accM (puM (thnZ (xnM zc) zc.1) zc)) (eM N m (accM (puM (thnZ (xnM zc) zc.1) zc))) τ70 w73 τ73 := q73 (N, E, (upA A57 (xnM zc) (cnC s66)), B, V, (accM (puM (thnZ (xnM zc) zc.1) zc)), m) ⟨_, rfl, hZ70, by omega, (k5 (by omega))⟩
    have hF73 := FzC.tr hF70 (FzC.mo hf73 hle70 (hF70).2.2.1.1.1)
    have hL73 := LsX.fz hL70 hf73
    have hle73 : cnC σ ≤ cnC τ73 := Nat.le_trans hle70 (hf73).1
    try dsimp only [Option.toList, List.cons_append, List.nil_append, s1C, s2C, dlC, kyC, Nat.beq, lkC, rcd, rno, rsw]
    intro a74 e74 ob74 fk74
    cases e74
    clear fk74 ob74
    generalize hs74 : pRC τ73 (cnC τ57) 73 (some (A73 (xnM (eM N m (accM (puM (thnZ (xnM zc) zc.1) zc))) - 1))) = s74
    have hx74 : XfE τ73 s74 := by rw [← hs74]; exact XfE.pR (by decide)
    have hra74 : ∀ a, a ≠ (cnC τ57) → ∀ k, fIC s74 a k = fIC τ73 a k ∧ fLC s74 a k = fLC τ73 a k ∧ fRC s74 a k = fRC τ73 a k := by rw [← hs74]; exact rR_a
    have hZ74 := ZC.lo hZ73 hL73 hx74 hra74
    have hF74 := FzC.tr hF73 (FzC.lo (n := cnC σ) (m := xnM z) (E := E) (B := B) (V := V) hL73 (Nat.le_refl _) hx74 hra74)
    have hL74 : LsX N A73 (cnC σ) s74 (eM N m (accM (puM (thnZ (xnM zc) zc.1) zc))) [((cnC τ57), (recZ 8 7 (zAt z.1) 0 (zAt z.1) (-1) 0 (xnM z : Int) ((xnM zc : Int) - 1) ((xnM (eM N m (accM (puM (thnZ (xnM zc) zc.1) zc))) : Int) - 1) (-1) (-1) []), none)] := by rw [← hs74]; exact LsX.s73 hL73 (opA_p (by omega)).symm (by omega)
    have hle74 : cnC σ ≤ cnC s74 := by rw [hx74.2.2]; exact hle73
    have c75 : (Int32.ofInt 13).toInt = 13 := by decide
    have c76 : (Int32.ofInt 7).toInt = 7 := by decide
    intro w77 τ77 o77 q77
    obtain ⟨rfl, hZ77, hf77, hnk77⟩ := q77 (N, E, A73, B, V, (eM N m (accM (puM (thnZ (xnM zc) zc.1) zc))), 13, 7) ⟨_, _, rfl, hZ74, by omega, by omega, by omega⟩
    have hF77 := FzC.tr hF74 (FzC.mo hf77 hle74 (hF74).2.2.1.1.1)
    have hL77 := LsX.fz hL74 hf77
    have hle77 : cnC σ ≤ cnC τ77 := Nat.le_trans hle74 (hf77).1
    try dsimp only [Option.toList, List.cons_append, List.nil_append, s1C, s2C, dlC, kyC, Nat.beq, lkC, rcd, rno, rsw]
    intro a78 e78 ob78 fk78
    cases e78
    clear fk78 ob78
    generalize hs78 : pRC τ77 (cnC τ57) 76 (some (cnC s74)) = s78
    have hx78 : XfE τ77 s78 := by rw [← hs78]; exact XfE.pR (by decide)
    have hra78 : ∀ a, a ≠ (cnC τ57) → ∀ k, fIC s78 a k = fIC τ77 a k ∧ fLC s78 a k = fLC τ77 a k ∧ fRC s78 a k = fRC τ77 a k := by rw [← hs78]; exact rR_a
    have hZ78 := ZC.lo hZ77 hL77 hx78 hra78
    have hF78 := FzC.tr hF77 (FzC.lo (n := cnC σ) (m := xnM z) (E := E) (B := B) (V := V) hL77 (Nat.le_refl _) hx78 hra78)
    have hL78 : LsX N (upA A73 (xnM (eM N m (accM (puM (thnZ (xnM zc) zc.1) zc)))) (cnC s74)) (cnC σ) s78 (puM (mkX 13 7 (eM N m (accM (puM (thnZ (xnM zc) zc.1) zc)))) (eM N m (accM (puM (thnZ (xnM zc) zc.1) zc)))) [((cnC τ57), (recZ 8 7 (zAt z.1) 0 (zAt z.1) (-1) 0 (xnM z : Int) ((xnM zc : Int) - 1) ((xnM (eM N m (accM (puM (thnZ (xnM zc) zc.1) zc))) : Int) - 1) (-1) (xnM (eM N m (accM (puM (thnZ (xnM zc) zc.1) zc))) : Int) []), none)] := by rw [← hs78]; exact LsX.s76 hL77 (by rw [opA_k, upA_e]) (by show (xnM (eM N m (accM (puM (thnZ (xnM zc) zc.1) zc))) : Int) < ((xnM (eM N m (accM (puM (thnZ (xnM zc) zc.1) zc))) + 1 : Nat) : Int); omega)
    have hle78 : cnC σ ≤ cnC s78 := by rw [hx78.2.2]; exact hle77
    intro a79 e79 ob79
    cases e79
    intro a80 e80 ob80 fk80
    obtain rfl : cnC s74 = a80 := Option.some.inj (((LsX.hd hL78).1.2.1.2.2.2.2.2.trans (show opA (upA A73 (xnM (eM N m (accM (puM (thnZ (xnM zc) zc.1) zc)))) (cnC s74)) (xnM (eM N m (accM (puM (thnZ (xnM zc) zc.1) zc))) : Int) = some (cnC s74) by rw [opA_k, upA_e])).symm.trans e80)
    clear fk80 ob80
    generalize hs80 : pRC s78 (cnC s74) 76 (some (cnC s66)) = s80
    have hth80 : some (cnC s66) = opA (upA A73 (xnM (eM N m (accM (puM (thnZ (xnM zc) zc.1) zc)))) (cnC s74)) (xnM zc : Int) := by
      rw [opA_k]
      have e9 : xnM zc < xnM (eM N m (accM (puM (thnZ (xnM zc) zc.1) zc))) := by have := hx73; have e8 : xnM (accM (puM (thnZ (xnM zc) zc.1) zc)) = xnM zc + 1 := rfl; omega
      rw [upA_n (Nat.ne_of_lt e9), (hf73.2.2.1.1.2 (xnM zc) (Nat.lt_succ_self _)).1, upA_e]
    have hx80 : XfE s78 s80 := by rw [← hs80]; exact XfE.pR (by decide)
    have eo80 : (upA A73 (xnM (eM N m (accM (puM (thnZ (xnM zc) zc.1) zc)))) (cnC s74)) (xnM (eM N m (accM (puM (thnZ (xnM zc) zc.1) zc)))) = (cnC s74) := upA_e
    have hra80 : ∀ a, a ≠ (upA A73 (xnM (eM N m (accM (puM (thnZ (xnM zc) zc.1) zc)))) (cnC s74)) (xnM (eM N m (accM (puM (thnZ (xnM zc) zc.1) zc)))) → ∀ k, fIC s80 a k = fIC s78 a k ∧ fLC s80 a k = fLC s78 a k ∧ fRC s80 a k = fRC s78 a k := by rw [eo80, ← hs80]; exact rR_a
    have hZ80 : ZC N E (upA A73 (xnM (eM N m (accM (puM (thnZ (xnM zc) zc.1) zc)))) (cnC s74)) B V s80 (puM (elsZ (xnM zc) (xnM (eM N m (accM (puM (thnZ (xnM zc) zc.1) zc)))) (eM N m (accM (puM (thnZ (xnM zc) zc.1) zc))).1) (eM N m (accM (puM (thnZ (xnM zc) zc.1) zc)))) := by
      refine ZC.tp (z := puM (mkX 13 7 (eM N m (accM (puM (thnZ (xnM zc) zc.1) zc)))) (eM N m (accM (puM (thnZ (xnM zc) zc.1) zc)))) (x := (mkX 13 7 (eM N m (accM (puM (thnZ (xnM zc) zc.1) zc))))) (x' := (elsZ (xnM zc) (xnM (eM N m (accM (puM (thnZ (xnM zc) zc.1) zc)))) (eM N m (accM (puM (thnZ (xnM zc) zc.1) zc))).1)) (l := ((eM N m (accM (puM (thnZ (xnM zc) zc.1) zc)))).2.1) hZ78 rfl hx80 (fun i hi k => hra80 _ (fun q => absurd (hZ78.inj (i := i) (j := xnM (eM N m (accM (puM (thnZ (xnM zc) zc.1) zc)))) (Nat.lt_succ_of_lt hi) (Nat.lt_succ_self _) q) (Nat.ne_of_lt hi)) k) ⟨?_, ?_⟩ ⟨rfl, rfl⟩
      · have q := (hZ78.2.2.2.2.1.1 (xnM (eM N m (accM (puM (thnZ (xnM zc) zc.1) zc)))) (Nat.lt_succ_self _)).1
        rw [xth_n] at q
        show XoC N (upA A73 (xnM (eM N m (accM (puM (thnZ (xnM zc) zc.1) zc)))) (cnC s74)) s80 (elsZ (xnM zc) (xnM (eM N m (accM (puM (thnZ (xnM zc) zc.1) zc)))) (eM N m (accM (puM (thnZ (xnM zc) zc.1) zc))).1) (xnM (eM N m (accM (puM (thnZ (xnM zc) zc.1) zc)))) ((upA A73 (xnM (eM N m (accM (puM (thnZ (xnM zc) zc.1) zc)))) (cnC s74)) (xnM (eM N m (accM (puM (thnZ (xnM zc) zc.1) zc)))))
        rw [eo80] at q ⊢
        rw [← hs80]
        exact q.mq hth80
      · have q9 := (hZ78.2.2.2.2.1.1 (xnM (eM N m (accM (puM (thnZ (xnM zc) zc.1) zc)))) (Nat.lt_succ_self _)).2
        have e9 : xnM zc < xnM (eM N m (accM (puM (thnZ (xnM zc) zc.1) zc))) := by have := hx73; have e8 : xnM (accM (puM (thnZ (xnM zc) zc.1) zc)) = xnM zc + 1 := rfl; omega
        show oprX (elsZ (xnM zc) (xnM (eM N m (accM (puM (thnZ (xnM zc) zc.1) zc)))) (eM N m (accM (puM (thnZ (xnM zc) zc.1) zc))).1) _
        unfold oprX elsZ recZ
        dsimp only
        have e7 : xcZ (eM N m (accM (puM (thnZ (xnM zc) zc.1) zc))).2.1 = xnM (eM N m (accM (puM (thnZ (xnM zc) zc.1) zc))) := rfl
        omega
    have hF80 : FzC (cnC σ) (xnM z) E A (upA A73 (xnM (eM N m (accM (puM (thnZ (xnM zc) zc.1) zc)))) (cnC s74)) B B V V z (puM (elsZ (xnM zc) (xnM (eM N m (accM (puM (thnZ (xnM zc) zc.1) zc)))) (eM N m (accM (puM (thnZ (xnM zc) zc.1) zc))).1) (eM N m (accM (puM (thnZ (xnM zc) zc.1) zc)))) σ s80 := FzC.tq hF78 (by have := hx73; have e8 : xnM (accM (puM (thnZ (xnM zc) zc.1) zc)) = xnM zc + 1 := rfl; have e7 := hxc; omega) rfl hx80 hra80
    have hL80 := LsX.z (z' := puM (elsZ (xnM zc) (xnM (eM N m (accM (puM (thnZ (xnM zc) zc.1) zc)))) (eM N m (accM (puM (thnZ (xnM zc) zc.1) zc))).1) (eM N m (accM (puM (thnZ (xnM zc) zc.1) zc)))) (LsX.xf (τ := s80) hL78 (fun q hq k => hra80 _ (fun e => (hL78.1 q hq).1.2.2.2 (xnM (eM N m (accM (puM (thnZ (xnM zc) zc.1) zc)))) (Nat.lt_succ_self _) e.symm) k) (Nat.le_of_eq hx80.2.2.symm)) rfl
    have hle80 : cnC σ ≤ cnC s80 := by rw [hx80.2.2]; exact hle78
    have c81 : (Int32.ofInt 6).toInt = 6 := by decide
    intro w82 τ82 o82 q82
    obtain ⟨rfl, hZ82, hf82⟩ := q82 (N, E, (upA A73 (xnM (eM N m (accM (puM (thnZ (xnM zc) zc.1) zc)))) (cnC s74)), B, V, (puM (elsZ (xnM zc) (xnM (eM N m (accM (puM (thnZ (xnM zc) zc.1) zc)))) (eM N m (accM (puM (thnZ (xnM zc) zc.1) zc))).1) (eM N m (accM (puM (thnZ (xnM zc) zc.1) zc)))), 6) ⟨_, rfl, hZ80, by omega, (k4 (by omega))⟩
    have hF82 := FzC.tr hF80 (FzC.mo hf82 hle80 (hF80).2.2.1.1.1)
    have hL82 := LsX.fz hL80 hf82
    have hle82 : cnC σ ≤ cnC τ82 := Nat.le_trans hle80 (hf82).1
    try dsimp only [Option.toList, List.cons_append, List.nil_append, s1C, s2C, dlC, kyC, Nat.beq, lkC, rcd, rno, rsw]
    have c83 : (Int32.ofInt 1).toInt = 1 := by decide
    have u84 := tiC p1
    have a84 : (p1 + (Int32.ofInt 1)).toInt = p1.toInt + 1 := addC (by omega) (by omega) (by omega)
    intro w85 τ85 o85 q85
    obtain ⟨r85, rfl, hr85, rfl⟩ := q85 (N, E, (upA A73 (xnM (eM N m (accM (puM (thnZ (xnM zc) zc.1) zc)))) (cnC s74)), B, V, (xpM 6 (puM (elsZ (xnM zc) (xnM (eM N m (accM (puM (thnZ (xnM zc) zc.1) zc)))) (eM N m (accM (puM (thnZ (xnM zc) zc.1) zc))).1) (eM N m (accM (puM (thnZ (xnM zc) zc.1) zc)))))) ⟨_, rfl, hZ82, by omega⟩
    try dsimp only [Option.toList, List.cons_append, List.nil_append, s1C, s2C, dlC, kyC, Nat.beq, lkC, rcd, rno, rsw]
    refine ⟨fun h86 => ?_, fun h86 => ?_⟩
    · have g86 := (eqI (x := r85) (y := 0) h86 : (r85 : Int32).toInt = (0 : Int32).toInt)
      have z0_ : (0 : Int32).toInt = 0 := rfl
      refine hB _ _ _ _ _ (fun m87 hm87 => ?_)
      dsimp only [ucgo, ucwp, ucsC, uqC, uoC, ctC, rfd, KX7_readChoice, KX7_readChoice_0, KX7_readChoice_32, KX7_readChoice_35, KX7_readChoice_124, KX7_readChoice_133, KX7_readChoice_140, lkC, s1C, s2C, dlC, kyC, Nat.beq, Nat.ble, rcd, rno, rsw, Nat.reduceAdd, Nat.reduceBEq, Nat.reduceDiv, List.drop, List.take, List.reverse, List.reverseAux, Int.toNat, Option.toList, List.append, List.cons_append, List.nil_append, zg76, zg213, zg240, zg242]
      have c88 : (Int32.ofInt 1).toInt = 1 := by decide
      have u89 := tiC p1
      have a89 : (p1 + (Int32.ofInt 1)).toInt = p1.toInt + 1 := addC (by omega) (by omega) (by omega)
      intro w90 τ90 o90 q90
      obtain ⟨A90, rfl, hZ90, hf90, ht90, hx90⟩ : ExQ N E (upA A73 (xnM (eM N m (accM (puM (thnZ (xnM zc) zc.1) zc)))) (cnC s74)) B V (xpM 6 (puM (elsZ (xnM zc) (xnM (eM N m (accM (puM (thnZ (xnM zc) zc.1) zc)))) (eM N m (accM (puM (thnZ (xnM zc) zc.1) zc))).1) (eM N m (accM (puM (thnZ (xnM zc) zc.1) zc))))) (chM N m (xpM 6 (puM (elsZ (xnM zc) (xnM (eM N m (accM (puM (thnZ (xnM zc) zc.1) zc)))) (eM N m (accM (puM (thnZ (xnM zc) zc.1) zc))).1) (eM N m (accM (puM (thnZ (xnM zc) zc.1) zc)))))) τ82 w90 τ90 := q90 (N, E, (upA A73 (xnM (eM N m (accM (puM (thnZ (xnM zc) zc.1) zc)))) (cnC s74)), B, V, (xpM 6 (puM (elsZ (xnM zc) (xnM (eM N m (accM (puM (thnZ (xnM zc) zc.1) zc)))) (eM N m (accM (puM (thnZ (xnM zc) zc.1) zc))).1) (eM N m (accM (puM (thnZ (xnM zc) zc.1) zc))))), m) ⟨_, rfl, hZ82, by omega, by omega, (by rw [← cM_s (k7 (by omega))]; exact k3 (by omega))⟩
      have hF90 := FzC.tr hF82 (FzC.mo hf90 hle82 (hF82).2.2.1.1.1)
      have hL90 := LsX.fz hL82 hf90
      have hle90 : cnC σ ≤ cnC τ90 := Nat.le_trans hle82 (hf90).1
      try dsimp only [Option.toList, List.cons_append, List.nil_append, s1C, s2C, dlC, kyC, Nat.beq, lkC, rcd, rno, rsw]
      refine hB _ _ _ _ _ (fun m91 hm91 => ?_)
      dsimp only [ucgo, ucwp, ucsC, uqC, uoC, ctC, rfd, KX7_readChoice, KX7_readChoice_0, KX7_readChoice_32, KX7_readChoice_35, KX7_readChoice_124, KX7_readChoice_133, KX7_readChoice_140, lkC, s1C, s2C, dlC, kyC, Nat.beq, Nat.ble, rcd, rno, rsw, Nat.reduceAdd, Nat.reduceBEq, Nat.reduceDiv, List.drop, List.take, List.reverse, List.reverseAux, Int.toNat, Option.toList, List.append, List.cons_append, List.nil_append, zg76, zg213, zg240, zg242]
      intro a92 e92 ob92 fk92
      cases e92
      clear fk92 ob92
      generalize hs92 : pRC τ90 (cnC τ57) 74 (some (A90 (xnM (chM N m (xpM 6 (puM (elsZ (xnM zc) (xnM (eM N m (accM (puM (thnZ (xnM zc) zc.1) zc)))) (eM N m (accM (puM (thnZ (xnM zc) zc.1) zc))).1) (eM N m (accM (puM (thnZ (xnM zc) zc.1) zc)))))) - 1))) = s92
      have hx92 : XfE τ90 s92 := by rw [← hs92]; exact XfE.pR (by decide)
      have hra92 : ∀ a, a ≠ (cnC τ57) → ∀ k, fIC s92 a k = fIC τ90 a k ∧ fLC s92 a k = fLC τ90 a k ∧ fRC s92 a k = fRC τ90 a k := by rw [← hs92]; exact rR_a
      have hZ92 := ZC.lo hZ90 hL90 hx92 hra92
      have hF92 := FzC.tr hF90 (FzC.lo (n := cnC σ) (m := xnM z) (E := E) (B := B) (V := V) hL90 (Nat.le_refl _) hx92 hra92)
      have hL92 : LsX N A90 (cnC σ) s92 (chM N m (xpM 6 (puM (elsZ (xnM zc) (xnM (eM N m (accM (puM (thnZ (xnM zc) zc.1) zc)))) (eM N m (accM (puM (thnZ (xnM zc) zc.1) zc))).1) (eM N m (accM (puM (thnZ (xnM zc) zc.1) zc)))))) [((cnC τ57), (recZ 8 7 (zAt z.1) 0 (zAt z.1) (-1) 0 (xnM z : Int) ((xnM zc : Int) - 1) ((xnM (eM N m (accM (puM (thnZ (xnM zc) zc.1) zc))) : Int) - 1) ((xnM (chM N m (xpM 6 (puM (elsZ (xnM zc) (xnM (eM N m (accM (puM (thnZ (xnM zc) zc.1) zc)))) (eM N m (accM (puM (thnZ (xnM zc) zc.1) zc))).1) (eM N m (accM (puM (thnZ (xnM zc) zc.1) zc)))))) : Int) - 1) (xnM (eM N m (accM (puM (thnZ (xnM zc) zc.1) zc))) : Int) []), none)] := by rw [← hs92]; exact LsX.s74 hL90 (opA_p (by omega)).symm (by omega)
      have hle92 : cnC σ ≤ cnC s92 := by rw [hx92.2.2]; exact hle90
      intro w93 τ93 o93 q93
      have hh93 := LsX.hd hL92
      obtain ⟨rfl, hZ93, hpo93, hnx93⟩ := q93 (N, E, A90, B, V, (chM N m (xpM 6 (puM (elsZ (xnM zc) (xnM (eM N m (accM (puM (thnZ (xnM zc) zc.1) zc)))) (eM N m (accM (puM (thnZ (xnM zc) zc.1) zc))).1) (eM N m (accM (puM (thnZ (xnM zc) zc.1) zc)))))), (recZ 8 7 (zAt z.1) (zAt (chM N m (xpM 6 (puM (elsZ (xnM zc) (xnM (eM N m (accM (puM (thnZ (xnM zc) zc.1) zc)))) (eM N m (accM (puM (thnZ (xnM zc) zc.1) zc))).1) (eM N m (accM (puM (thnZ (xnM zc) zc.1) zc)))))).1 - 1) (zAt z.1) (-1) 0 (xnM z : Int) ((xnM zc : Int) - 1) ((xnM (eM N m (accM (puM (thnZ (xnM zc) zc.1) zc))) : Int) - 1) ((xnM (chM N m (xpM 6 (puM (elsZ (xnM zc) (xnM (eM N m (accM (puM (thnZ (xnM zc) zc.1) zc)))) (eM N m (accM (puM (thnZ (xnM zc) zc.1) zc))).1) (eM N m (accM (puM (thnZ (xnM zc) zc.1) zc)))))) : Int) - 1) (xnM (eM N m (accM (puM (thnZ (xnM zc) zc.1) zc))) : Int) [])) ⟨_, rfl, hZ92, ⟨hh93.1.1.2, hh93.1.2.1, hh93.1.2.2.1⟩, rfl, ⟨fun a ha => absurd ha List.not_mem_nil, trivial⟩⟩
      have hnx93 := hnx93.trans hh93.1.2.2.2
      have hF93 := FzC.tr hF92 (FzC.pu (x := (recZ 8 7 (zAt z.1) (zAt (chM N m (xpM 6 (puM (elsZ (xnM zc) (xnM (eM N m (accM (puM (thnZ (xnM zc) zc.1) zc)))) (eM N m (accM (puM (thnZ (xnM zc) zc.1) zc))).1) (eM N m (accM (puM (thnZ (xnM zc) zc.1) zc)))))).1 - 1) (zAt z.1) (-1) 0 (xnM z : Int) ((xnM zc : Int) - 1) ((xnM (eM N m (accM (puM (thnZ (xnM zc) zc.1) zc))) : Int) - 1) ((xnM (chM N m (xpM 6 (puM (elsZ (xnM zc) (xnM (eM N m (accM (puM (thnZ (xnM zc) zc.1) zc)))) (eM N m (accM (puM (thnZ (xnM zc) zc.1) zc))).1) (eM N m (accM (puM (thnZ (xnM zc) zc.1) zc)))))) : Int) - 1) (xnM (eM N m (accM (puM (thnZ (xnM zc) zc.1) zc))) : Int) [])) hpo93 hh93.1.1.1 hle92 (Int.le_refl _) hZ92.1.2.2.2.2.2.1.2.1)
      have hL93 := LsX.pu (x := (recZ 8 7 (zAt z.1) (zAt (chM N m (xpM 6 (puM (elsZ (xnM zc) (xnM (eM N m (accM (puM (thnZ (xnM zc) zc.1) zc)))) (eM N m (accM (puM (thnZ (xnM zc) zc.1) zc))).1) (eM N m (accM (puM (thnZ (xnM zc) zc.1) zc)))))).1 - 1) (zAt z.1) (-1) 0 (xnM z : Int) ((xnM zc : Int) - 1) ((xnM (eM N m (accM (puM (thnZ (xnM zc) zc.1) zc))) : Int) - 1) ((xnM (chM N m (xpM 6 (puM (elsZ (xnM zc) (xnM (eM N m (accM (puM (thnZ (xnM zc) zc.1) zc)))) (eM N m (accM (puM (thnZ (xnM zc) zc.1) zc))).1) (eM N m (accM (puM (thnZ (xnM zc) zc.1) zc)))))) : Int) - 1) (xnM (eM N m (accM (puM (thnZ (xnM zc) zc.1) zc))) : Int) [])) hh93.2.1 hpo93 hh93.2.2
      have hle93 : cnC σ ≤ cnC τ93 := Nat.le_trans hle92 hpo93.1
      try dsimp only [Option.toList, List.cons_append, List.nil_append, s1C, s2C, dlC, kyC, Nat.beq, lkC, rcd, rno, rsw]
      try dsimp only [Qz_readChoice]
      exact ExQ.pu (by show ch2M (eM N m) (cM N m) (rbM z) (chlM (opM N (m + 1) 0) 501 [] (rbM z) (opM N (m + 1) 0 z)) = _; rw [← hzc, d2 (by omega)]; rw [cM_s (k7 (by omega))]; rfl) hZ93 hF93 hnx93 rfl rfl (by have := hx90; have e8 : xnM (accM (puM (thnZ (xnM zc) zc.1) zc)) = xnM zc + 1 := rfl; have e7 := hxc; have e6 := hx73; have e5 : xnM (xpM 6 (puM (elsZ (xnM zc) (xnM (eM N m (accM (puM (thnZ (xnM zc) zc.1) zc)))) (eM N m (accM (puM (thnZ (xnM zc) zc.1) zc))).1) (eM N m (accM (puM (thnZ (xnM zc) zc.1) zc))))) = xnM (eM N m (accM (puM (thnZ (xnM zc) zc.1) zc))) + 1 := rfl; omega)
    · have g86 := (neI (x := r85) (y := 0) h86 : ¬ (r85 : Int32).toInt = (0 : Int32).toInt)
      have z0_ : (0 : Int32).toInt = 0 := rfl
      exfalso
      omega
  · have g60 := (neI (x := c58) (y := (Int32.ofInt 7)) h60 : ¬ (c58 : Int32).toInt = ((Int32.ofInt 7) : Int32).toInt)
    refine hB _ _ _ _ _ (fun m94 hm94 => ?_)
    dsimp only [ucgo, ucwp, ucsC, uqC, uoC, ctC, rfd, KX7_readChoice, KX7_readChoice_0, KX7_readChoice_32, KX7_readChoice_35, KX7_readChoice_124, KX7_readChoice_133, KX7_readChoice_140, lkC, s1C, s2C, dlC, kyC, Nat.beq, Nat.ble, rcd, rno, rsw, Nat.reduceAdd, Nat.reduceBEq, Nat.reduceDiv, List.drop, List.take, List.reverse, List.reverseAux, Int.toNat, Option.toList, List.append, List.cons_append, List.nil_append, zg76, zg213, zg240, zg242]
    try dsimp only [Qz_readChoice]
    show ExQ N E A B V z (ch2M (eM N m) (cM N m) (rbM z) (chlM (opM N (m + 1) 0) 501 [] (rbM z) (opM N (m + 1) 0 z))) σ _ _
    rw [← hzc, d1 (by omega)]
    exact ⟨A57, rfl, hZ57, hF57, ht57, hxc⟩
