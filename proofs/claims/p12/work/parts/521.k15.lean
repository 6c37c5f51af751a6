/-! what the class answers: exps, S's by their tokens -/
def EqX (z : ZS) (q : Nat) (i k : Int) : Prop := (xth z q).1.1 ≤ 10 ∧ (xth z q).1.2.2.1 = i ∧ (xth z q).1.2.2.2 = k
def EqS (z : ZS) (j : Nat) (i : Int) : Prop := fiS z j = i ∧ SkD z j
/-- a program's exps -/
def ExL (E A : Nat → Nat) (σ : CsC) (z : ZS) : Prop := fRC σ (E 1) 213 = some (E 213) ∧ LiC σ (E 213) (xnM z) A ∧ (∀ q, q < xnM z → (fIC σ (A q) 60).toInt = (xth z q).1.1 ∧ (fIC σ (A q) 62).toInt = (xth z q).1.2.2.1 ∧ (fIC σ (A q) 64).toInt = (xth z q).1.2.2.2) ∧ xnM z ≤ 100000
def StL (E B : Nat → Nat) (σ : CsC) (z : ZS) : Prop := fRC σ (E 1) 214 = some (E 214) ∧ LiC σ (E 214) (snM z) B ∧ (∀ j, j < snM z → (fIC σ (B j) 270).toInt = kjS z j ∧ (fIC σ (B j) 271).toInt = fiS z j) ∧ snM z ≤ 100000
abbrev Pz_expAt : ((Int → Int) × (Nat → Nat) × (Nat → Nat) × (Nat → Nat) × (Nat → Nat) × ZS) → CpC := fun y As σ => match y with
  | (N, E, A, B, V, z) => ∃ (p1 : Int32) (p2 : Int32), As = [.inr (.inr (some (E 1))), .inl p1, .inl p2] ∧ (ExL E A σ z)
abbrev Qz_expAt : ((Int → Int) × (Nat → Nat) × (Nat → Nat) × (Nat → Nat) × (Nat → Nat) × ZS) → CqC := fun y As σ w τ => match y, As with
  | (N, E, A, B, V, z), [_, .inl p1, .inl p2] => σ = τ ∧ ((w = some (.inr (.inr none)) ∧ ∀ q, q < xnM z → ¬ EqX z q p1.toInt p2.toInt) ∨ ∃ q, q < xnM z ∧ w = some (.inr (.inr (some (A q)))) ∧ EqX z q p1.toInt p2.toInt)
  | _, _ => True
abbrev Uz_expAt : CqC := fun As σ w τ => ∀ y, Pz_expAt y As σ → Qz_expAt y As σ w τ
set_option maxHeartbeats 4000000 in
theorem pz_expAt (y : (Int → Int) × (Nat → Nat) × (Nat → Nat) × (Nat → Nat) × (Nat → Nat) × ZS) : PbC KX6_expAt [(234, TrP, EqC 234), (235, TrP, EqC 235)] [] (fun As σ => Pz_expAt y As σ ∧ cnC σ ≤ 1000000 ∧ ∃ w τ, uqC quL 120 As σ w τ) (Qz_expAt y) := by
  obtain ⟨N, E, A, B, V, z⟩ := y
  rintro As σ ⟨⟨p1, p2, rfl, hXL⟩, hcn, _, _, hQ⟩ K hB hW n_
  have hl9 := hXL.2.2.2
  have L2 : ∀ (n : Nat) (i : Int32), (0 ≤ i.toInt) → (i.toInt ≤ (xnM z : Int)) → (∀ q, q < i.toInt.toNat → ¬ EqX z q p1.toInt p2.toInt) →  K n 2 [(0, .inr (.inr (some (E 1)))), (1, .inl p1), (2, .inl p2), (3, .inl i)] [] σ := by
    intro n
    induction n using Nat.strongRecOn with
    | _ n ih =>
      intro i h1 h2 hno
      have hli := hXL.2.1
      refine hB _ _ _ _ _ (fun m51 hm51 => ?_)
      dsimp only [ucgo, ucwp, ucsC, uqC, uoC, ctC, rfd, KX6_expAt, KX6_expAt_0, KX6_expAt_2, KX6_expAt_13, KX6_expAt_36, KX6_expAt_45, KX6_expAt_54, KX6_expAt_57, KX6_expAt_63, lkC, s1C, s2C, dlC, kyC, Nat.beq, Nat.ble, rcd, rno, rsw, Nat.reduceAdd, Nat.reduceBEq, Nat.reduceDiv, List.drop, List.take, List.reverse, List.reverseAux, Int.toNat, Option.toList, List.append, List.cons_append, List.nil_append, zg60, zg62, zg64, zg213]
      intro a52 e52 ob52
      cases e52
      rw [hXL.1]
      try dsimp only
      intro w54 τ54 o54 q54
      obtain ⟨r54, rfl, rfl, hr54a, hr54b, hr54, -⟩ := (show Q_Jx4a65c_size_8abf5 [.inr (.inr (some (E 213)))] σ w54 τ54 from o54.1.1)
      have hs54_ : r54.toInt = ((xnM z) : Int) := by rw [← hr54]; exact hli.1
      try dsimp only [Option.toList, List.cons_append, List.nil_append, s1C, s2C, dlC, kyC, Nat.beq, lkC, rcd, rno, rsw]
      refine ⟨fun h55 => ?_, fun h55 => ?_⟩
      · have g55 := leI (x := r54) (y := i) h55
        refine hB _ _ _ _ _ (fun m56 hm56 => ?_)
        dsimp only [ucgo, ucwp, ucsC, uqC, uoC, ctC, rfd, KX6_expAt, KX6_expAt_0, KX6_expAt_2, KX6_expAt_13, KX6_expAt_36, KX6_expAt_45, KX6_expAt_54, KX6_expAt_57, KX6_expAt_63, lkC, s1C, s2C, dlC, kyC, Nat.beq, Nat.ble, rcd, rno, rsw, Nat.reduceAdd, Nat.reduceBEq, Nat.reduceDiv, List.drop, List.take, List.reverse, List.reverseAux, Int.toNat, Option.toList, List.append, List.cons_append, List.nil_append, zg60, zg62, zg64, zg213]
        try dsimp only [Qz_expAt]
        exact ⟨rfl, Or.inl ⟨rfl, fun q hq => hno q (by omega)⟩⟩
      · have g55 := nleI (x := r54) (y := i) h55
        obtain ⟨ki, hki⟩ : ∃ q, i.toInt.toNat = q := ⟨_, rfl⟩
        have hlki : ki < (xnM z) := by omega
        obtain ⟨ob, hob⟩ : ∃ o, A ki = o := ⟨_, rfl⟩
        refine hB _ _ _ _ _ (fun m57 hm57 => ?_)
        dsimp only [ucgo, ucwp, ucsC, uqC, uoC, ctC, rfd, KX6_expAt, KX6_expAt_0, KX6_expAt_2, KX6_expAt_13, KX6_expAt_36, KX6_expAt_45, KX6_expAt_54, KX6_expAt_57, KX6_expAt_63, lkC, s1C, s2C, dlC, kyC, Nat.beq, Nat.ble, rcd, rno, rsw, Nat.reduceAdd, Nat.reduceBEq, Nat.reduceDiv, List.drop, List.take, List.reverse, List.reverseAux, Int.toNat, Option.toList, List.append, List.cons_append, List.nil_append, zg60, zg62, zg64, zg213]
        intro a58 e58 ob58
        cases e58
        rw [hXL.1]
        try dsimp only
        intro w60 τ60 o60 q60
        have hg60 : Q_Jx4a65c_get_915e3 [.inr (.inr (some (E 213))), .inl i] σ w60 τ60 ∧ U_get [.inr (.inr (some (E 213))), .inl i] σ w60 τ60 := o60.1.1
        obtain ⟨b60, rfl, rfl, -⟩ := hg60.1
        have he60 := hg60.2 b60 rfl
        have hv60 := hli.2 ki hlki
        try dsimp only at hv60
        obtain rfl : ob = b60 := hob.symm.trans (Option.some.inj (hv60.1.symm.trans (by rw [← hki, ← nT_toNat]; exact he60)))
        try dsimp only [Option.toList, List.cons_append, List.nil_append, s1C, s2C, dlC, kyC, Nat.beq, lkC, rcd, rno, rsw]
        intro oc61
        intro a62 e62 ob62
        cases e62
        have f63 : (fIC σ ob 60).toInt = (xth z ki).1.1 := by rw [← hob]; exact (hXL.2.2.1 ki hlki).1
        have c64 : (Int32.ofInt 10).toInt = 10 := by decide
        refine ⟨fun h65 => ?_, fun h65 => ?_⟩
        · have g65 := ltI (x := (Int32.ofInt 10)) (y := (fIC σ ob 60)) h65
          refine hB _ _ _ _ _ (fun m66 hm66 => ?_)
          dsimp only [ucgo, ucwp, ucsC, uqC, uoC, ctC, rfd, KX6_expAt, KX6_expAt_0, KX6_expAt_2, KX6_expAt_13, KX6_expAt_36, KX6_expAt_45, KX6_expAt_54, KX6_expAt_57, KX6_expAt_63, lkC, s1C, s2C, dlC, kyC, Nat.beq, Nat.ble, rcd, rno, rsw, Nat.reduceAdd, Nat.reduceBEq, Nat.reduceDiv, List.drop, List.take, List.reverse, List.reverseAux, Int.toNat, Option.toList, List.append, List.cons_append, List.nil_append, zg60, zg62, zg64, zg213]
          have c67 : (Int32.ofInt 1).toInt = 1 := by decide
          have u68 := tiC i
          have a68 : (i + (Int32.ofInt 1)).toInt = i.toInt + 1 := addC (by omega) (by omega) (by omega)
          exact hW _ 2 [(0, .inr (.inr (some (E 1)))), (1, .inl p1), (2, .inl p2), (3, .inl (i + (Int32.ofInt 1)))] _ _ _ (List.forall_mem_cons.2 ⟨List.Mem.tail _ (List.Mem.tail _ (List.Mem.head _)), List.forall_mem_cons.2 ⟨List.Mem.tail _ (List.Mem.tail _ (List.Mem.tail _ (List.Mem.head _))), List.forall_mem_cons.2 ⟨List.Mem.tail _ (List.Mem.tail _ (List.Mem.tail _ (List.Mem.tail _ (List.Mem.head _)))), List.forall_mem_cons.2 ⟨List.Mem.head _, fun _ h => absurd h List.not_mem_nil⟩⟩⟩⟩) (ih _ (by omega) (i + (Int32.ofInt 1)) (by omega) (by omega) (fun q hq => by
            by_cases c9 : q = ki
            · rw [c9]
              unfold EqX
              omega
            · exact hno q (by omega)))
        · have g65 := nltI (x := (Int32.ofInt 10)) (y := (fIC σ ob 60)) h65
          refine hB _ _ _ _ _ (fun m69 hm69 => ?_)
          dsimp only [ucgo, ucwp, ucsC, uqC, uoC, ctC, rfd, KX6_expAt, KX6_expAt_0, KX6_expAt_2, KX6_expAt_13, KX6_expAt_36, KX6_expAt_45, KX6_expAt_54, KX6_expAt_57, KX6_expAt_63, lkC, s1C, s2C, dlC, kyC, Nat.beq, Nat.ble, rcd, rno, rsw, Nat.reduceAdd, Nat.reduceBEq, Nat.reduceDiv, List.drop, List.take, List.reverse, List.reverseAux, Int.toNat, Option.toList, List.append, List.cons_append, List.nil_append, zg60, zg62, zg64, zg213]
          intro a70 e70 ob70
          cases e70
          have f71 : (fIC σ ob 62).toInt = (xth z ki).1.2.2.1 := by rw [← hob]; exact (hXL.2.2.1 ki hlki).2.1
          refine ⟨fun h72 => ?_, fun h72 => ?_⟩
          · have g72 := (neI (x := (fIC σ ob 62)) (y := p1) h72 : ¬ ((fIC σ ob 62) : Int32).toInt = (p1 : Int32).toInt)
            refine hB _ _ _ _ _ (fun m73 hm73 => ?_)
            dsimp only [ucgo, ucwp, ucsC, uqC, uoC, ctC, rfd, KX6_expAt, KX6_expAt_0, KX6_expAt_2, KX6_expAt_13, KX6_expAt_36, KX6_expAt_45, KX6_expAt_54, KX6_expAt_57, KX6_expAt_63, lkC, s1C, s2C, dlC, kyC, Nat.beq, Nat.ble, rcd, rno, rsw, Nat.reduceAdd, Nat.reduceBEq, Nat.reduceDiv, List.drop, List.take, List.reverse, List.reverseAux, Int.toNat, Option.toList, List.append, List.cons_append, List.nil_append, zg60, zg62, zg64, zg213]
            have c74 : (Int32.ofInt 1).toInt = 1 := by decide
            have u75 := tiC i
            have a75 : (i + (Int32.ofInt 1)).toInt = i.toInt + 1 := addC (by omega) (by omega) (by omega)
            exact hW _ 2 [(0, .inr (.inr (some (E 1)))), (1, .inl p1), (2, .inl p2), (3, .inl (i + (Int32.ofInt 1)))] _ _ _ (List.forall_mem_cons.2 ⟨List.Mem.tail _ (List.Mem.tail _ (List.Mem.head _)), List.forall_mem_cons.2 ⟨List.Mem.tail _ (List.Mem.tail _ (List.Mem.tail _ (List.Mem.head _))), List.forall_mem_cons.2 ⟨List.Mem.tail _ (List.Mem.tail _ (List.Mem.tail _ (List.Mem.tail _ (List.Mem.head _)))), List.forall_mem_cons.2 ⟨List.Mem.head _, fun _ h => absurd h List.not_mem_nil⟩⟩⟩⟩) (ih _ (by omega) (i + (Int32.ofInt 1)) (by omega) (by omega) (fun q hq => by
              by_cases c9 : q = ki
              · rw [c9]
                unfold EqX
                omega
              · exact hno q (by omega)))
          · have g72 := (eqI (x := (fIC σ ob 62)) (y := p1) h72 : ((fIC σ ob 62) : Int32).toInt = (p1 : Int32).toInt)
            refine hB _ _ _ _ _ (fun m76 hm76 => ?_)
            dsimp only [ucgo, ucwp, ucsC, uqC, uoC, ctC, rfd, KX6_expAt, KX6_expAt_0, KX6_expAt_2, KX6_expAt_13, KX6_expAt_36, KX6_expAt_45, KX6_expAt_54, KX6_expAt_57, KX6_expAt_63, lkC, s1C, s2C, dlC, kyC, Nat.beq, Nat.ble, rcd, rno, rsw, Nat.reduceAdd, Nat.reduceBEq, Nat.reduceDiv, List.drop, List.take, List.reverse, List.reverseAux, Int.toNat, Option.toList, List.append, List.cons_append, List.nil_append, zg60, zg62, zg64, zg213]
            intro a77 e77 ob77
            cases e77
            have f78 : (fIC σ ob 64).toInt = (xth z ki).1.2.2.2 := by rw [← hob]; exact (hXL.2.2.1 ki hlki).2.2
            refine ⟨fun h79 => ?_, fun h79 => ?_⟩
            · have g79 := (neI (x := (fIC σ ob 64)) (y := p2) h79 : ¬ ((fIC σ ob 64) : Int32).toInt = (p2 : Int32).toInt)
              refine hB _ _ _ _ _ (fun m80 hm80 => ?_)
              dsimp only [ucgo, ucwp, ucsC, uqC, uoC, ctC, rfd, KX6_expAt, KX6_expAt_0, KX6_expAt_2, KX6_expAt_13, KX6_expAt_36, KX6_expAt_45, KX6_expAt_54, KX6_expAt_57, KX6_expAt_63, lkC, s1C, s2C, dlC, kyC, Nat.beq, Nat.ble, rcd, rno, rsw, Nat.reduceAdd, Nat.reduceBEq, Nat.reduceDiv, List.drop, List.take, List.reverse, List.reverseAux, Int.toNat, Option.toList, List.append, List.cons_append, List.nil_append, zg60, zg62, zg64, zg213]
              have c81 : (Int32.ofInt 1).toInt = 1 := by decide
              have u82 := tiC i
              have a82 : (i + (Int32.ofInt 1)).toInt = i.toInt + 1 := addC (by omega) (by omega) (by omega)
              exact hW _ 2 [(0, .inr (.inr (some (E 1)))), (1, .inl p1), (2, .inl p2), (3, .inl (i + (Int32.ofInt 1)))] _ _ _ (List.forall_mem_cons.2 ⟨List.Mem.tail _ (List.Mem.tail _ (List.Mem.head _)), List.forall_mem_cons.2 ⟨List.Mem.tail _ (List.Mem.tail _ (List.Mem.tail _ (List.Mem.head _))), List.forall_mem_cons.2 ⟨List.Mem.tail _ (List.Mem.tail _ (List.Mem.tail _ (List.Mem.tail _ (List.Mem.head _)))), List.forall_mem_cons.2 ⟨List.Mem.head _, fun _ h => absurd h List.not_mem_nil⟩⟩⟩⟩) (ih _ (by omega) (i + (Int32.ofInt 1)) (by omega) (by omega) (fun q hq => by
                by_cases c9 : q = ki
                · rw [c9]
                  unfold EqX
                  omega
                · exact hno q (by omega)))
            · have g79 := (eqI (x := (fIC σ ob 64)) (y := p2) h79 : ((fIC σ ob 64) : Int32).toInt = (p2 : Int32).toInt)
              refine hB _ _ _ _ _ (fun m83 hm83 => ?_)
              dsimp only [ucgo, ucwp, ucsC, uqC, uoC, ctC, rfd, KX6_expAt, KX6_expAt_0, KX6_expAt_2, KX6_expAt_13, KX6_expAt_36, KX6_expAt_45, KX6_expAt_54, KX6_expAt_57, KX6_expAt_63, lkC, s1C, s2C, dlC, kyC, Nat.beq, Nat.ble, rcd, rno, rsw, Nat.reduceAdd, Nat.reduceBEq, Nat.reduceDiv, List.drop, List.take, List.reverse, List.reverseAux, Int.toNat, Option.toList, List.append, List.cons_append, List.nil_append, zg60, zg62, zg64, zg213]
              try dsimp only [Qz_expAt]
              refine ⟨rfl, Or.inr ⟨ki, hlki, by rw [hob], ?_⟩⟩
              unfold EqX
              omega
  change K n_ 0 [(0, .inr (.inr (some (E 1)))), (1, .inl p1), (2, .inl p2)] [] σ
  refine hB _ _ _ _ _ (fun m84 hm84 => ?_)
  dsimp only [ucgo, ucwp, ucsC, uqC, uoC, ctC, rfd, KX6_expAt, KX6_expAt_0, KX6_expAt_2, KX6_expAt_13, KX6_expAt_36, KX6_expAt_45, KX6_expAt_54, KX6_expAt_57, KX6_expAt_63, lkC, s1C, s2C, dlC, kyC, Nat.beq, Nat.ble, rcd, rno, rsw, Nat.reduceAdd, Nat.reduceBEq, Nat.reduceDiv, List.drop, List.take, List.reverse, List.reverseAux, Int.toNat, Option.toList, List.append, List.cons_append, List.nil_append, zg60, zg62, zg64, zg213]
  have c85 : (Int32.ofInt 0).toInt = 0 := by decide
  exact hW _ 2 [(0, .inr (.inr (some (E 1)))), (1, .inl p1), (2, .inl p2), (3, .inl (Int32.ofInt 0))] _ _ _ (List.forall_mem_cons.2 ⟨List.Mem.tail _ (List.Mem.head _), List.forall_mem_cons.2 ⟨List.Mem.tail _ (List.Mem.tail _ (List.Mem.head _)), List.forall_mem_cons.2 ⟨List.Mem.tail _ (List.Mem.tail _ (List.Mem.tail _ (List.Mem.head _))), List.forall_mem_cons.2 ⟨List.Mem.head _, fun _ h => absurd h List.not_mem_nil⟩⟩⟩⟩) (L2 _ (Int32.ofInt 0) (by omega) (by omega) (fun q hq => absurd hq (by omega)))
theorem wz_expAt : ∀ (L : Nat) (As : List AvC) (σ : CsC) (w : Option AvC) (τ : CsC), EvF L 120 As σ w τ → Uz_expAt As σ w τ := by
  intro L
  cases L with
  | zero => exact fun _ _ _ _ h => h.elim
  | succ L => exact fun As σ w τ h y hy => EvF.us (cs := [234, 235]) (pz_expAt y) rfl (List.forall_mem_cons.2 ⟨fun _ _ _ _ _ => trivial, List.forall_mem_cons.2 ⟨fun _ _ _ _ _ => trivial, fun _ h => absurd h List.not_mem_nil⟩⟩) h hy
abbrev Pz_isPart : ((Int → Int) × (Nat → Nat) × (Nat → Nat) × (Nat → Nat) × (Nat → Nat) × ZS × Nat) → CpC := fun y As σ => match y with
  | (N, E, A, B, V, z, j) => ∃ (p0 : Nat), As = [.inr (.inr (some p0))] ∧ ((fIC σ p0 270).toInt = kjS z j)
abbrev Qz_isPart : ((Int → Int) × (Nat → Nat) × (Nat → Nat) × (Nat → Nat) × (Nat → Nat) × ZS × Nat) → CqC := fun y As σ w τ => match y, As with
  | (N, E, A, B, V, z, j), [.inr (.inr (some p0))] => ∃ r, w = some (.inl r) ∧ ((r.toInt = 1 ∧ ¬ SkD z j) ∨ (r.toInt = 0 ∧ SkD z j)) ∧ σ = τ
  | _, _ => True
abbrev Uz_isPart : CqC := fun As σ w τ => ∀ y, Pz_isPart y As σ → Qz_isPart y As σ w τ
set_option maxHeartbeats 4000000 in
theorem pz_isPart (y : (Int → Int) × (Nat → Nat) × (Nat → Nat) × (Nat → Nat) × (Nat → Nat) × ZS × Nat) : PbC KX8_isPart [] [] (fun As σ => Pz_isPart y As σ ∧ cnC σ ≤ 1000000 ∧ ∃ w τ, uqC quL 180 As σ w τ) (Qz_isPart y) := by
  obtain ⟨N, E, A, B, V, z, j⟩ := y
  rintro As σ ⟨⟨p0, rfl, hk⟩, hcn, _, _, hQ⟩ K hB hW n_
  change K n_ 0 [(0, .inr (.inr (some p0)))] [] σ
  refine hB _ _ _ _ _ (fun m51 hm51 => ?_)
  dsimp only [ucgo, ucwp, ucsC, uqC, uoC, ctC, rfd, KX8_isPart, KX8_isPart_0, KX8_isPart_9, KX8_isPart_18, KX8_isPart_27, KX8_isPart_36, KX8_isPart_45, KX8_isPart_49, KX8_isPart_50, lkC, s1C, s2C, dlC, kyC, Nat.beq, Nat.ble, rcd, rno, rsw, Nat.reduceAdd, Nat.reduceBEq, Nat.reduceDiv, List.drop, List.take, List.reverse, List.reverseAux, Int.toNat, Option.toList, List.append, List.cons_append, List.nil_append, zg270]
  intro a52 e52 ob52
  cases e52
  have c53 : (Int32.ofInt 62).toInt = 62 := by decide
  refine ⟨fun h54 => ?_, fun h54 => ?_⟩
  · have g54 := (eqI (x := (fIC σ p0 270)) (y := (Int32.ofInt 62)) h54 : ((fIC σ p0 270) : Int32).toInt = ((Int32.ofInt 62) : Int32).toInt)
    refine hB _ _ _ _ _ (fun m55 hm55 => ?_)
    dsimp only [ucgo, ucwp, ucsC, uqC, uoC, ctC, rfd, KX8_isPart, KX8_isPart_0, KX8_isPart_9, KX8_isPart_18, KX8_isPart_27, KX8_isPart_36, KX8_isPart_45, KX8_isPart_49, KX8_isPart_50, lkC, s1C, s2C, dlC, kyC, Nat.beq, Nat.ble, rcd, rno, rsw, Nat.reduceAdd, Nat.reduceBEq, Nat.reduceDiv, List.drop, List.take, List.reverse, List.reverseAux, Int.toNat, Option.toList, List.append, List.cons_append, List.nil_append, zg270]
    have c56 : (Int32.ofInt 1).toInt = 1 := by decide
    refine hB _ _ _ _ _ (fun m57 hm57 => ?_)
    dsimp only [ucgo, ucwp, ucsC, uqC, uoC, ctC, rfd, KX8_isPart, KX8_isPart_0, KX8_isPart_9, KX8_isPart_18, KX8_isPart_27, KX8_isPart_36, KX8_isPart_45, KX8_isPart_49, KX8_isPart_50, lkC, s1C, s2C, dlC, kyC, Nat.beq, Nat.ble, rcd, rno, rsw, Nat.reduceAdd, Nat.reduceBEq, Nat.reduceDiv, List.drop, List.take, List.reverse, List.reverseAux, Int.toNat, Option.toList, List.append, List.cons_append, List.nil_append, zg270]
    try dsimp only [Qz_isPart]
    exact ⟨_, rfl, Or.inl ⟨by omega, by unfold SkD; omega⟩, rfl⟩
  · have g54 := (neI (x := (fIC σ p0 270)) (y := (Int32.ofInt 62)) h54 : ¬ ((fIC σ p0 270) : Int32).toInt = ((Int32.ofInt 62) : Int32).toInt)
    refine hB _ _ _ _ _ (fun m58 hm58 => ?_)
    dsimp only [ucgo, ucwp, ucsC, uqC, uoC, ctC, rfd, KX8_isPart, KX8_isPart_0, KX8_isPart_9, KX8_isPart_18, KX8_isPart_27, KX8_isPart_36, KX8_isPart_45, KX8_isPart_49, KX8_isPart_50, lkC, s1C, s2C, dlC, kyC, Nat.beq, Nat.ble, rcd, rno, rsw, Nat.reduceAdd, Nat.reduceBEq, Nat.reduceDiv, List.drop, List.take, List.reverse, List.reverseAux, Int.toNat, Option.toList, List.append, List.cons_append, List.nil_append, zg270]
    intro a59 e59 ob59
    cases e59
    have c60 : (Int32.ofInt 63).toInt = 63 := by decide
    refine ⟨fun h61 => ?_, fun h61 => ?_⟩
    · have g61 := (eqI (x := (fIC σ p0 270)) (y := (Int32.ofInt 63)) h61 : ((fIC σ p0 270) : Int32).toInt = ((Int32.ofInt 63) : Int32).toInt)
      refine hB _ _ _ _ _ (fun m62 hm62 => ?_)
      dsimp only [ucgo, ucwp, ucsC, uqC, uoC, ctC, rfd, KX8_isPart, KX8_isPart_0, KX8_isPart_9, KX8_isPart_18, KX8_isPart_27, KX8_isPart_36, KX8_isPart_45, KX8_isPart_49, KX8_isPart_50, lkC, s1C, s2C, dlC, kyC, Nat.beq, Nat.ble, rcd, rno, rsw, Nat.reduceAdd, Nat.reduceBEq, Nat.reduceDiv, List.drop, List.take, List.reverse, List.reverseAux, Int.toNat, Option.toList, List.append, List.cons_append, List.nil_append, zg270]
      have c63 : (Int32.ofInt 1).toInt = 1 := by decide
      refine hB _ _ _ _ _ (fun m64 hm64 => ?_)
      dsimp only [ucgo, ucwp, ucsC, uqC, uoC, ctC, rfd, KX8_isPart, KX8_isPart_0, KX8_isPart_9, KX8_isPart_18, KX8_isPart_27, KX8_isPart_36, KX8_isPart_45, KX8_isPart_49, KX8_isPart_50, lkC, s1C, s2C, dlC, kyC, Nat.beq, Nat.ble, rcd, rno, rsw, Nat.reduceAdd, Nat.reduceBEq, Nat.reduceDiv, List.drop, List.take, List.reverse, List.reverseAux, Int.toNat, Option.toList, List.append, List.cons_append, List.nil_append, zg270]
      try dsimp only [Qz_isPart]
      exact ⟨_, rfl, Or.inl ⟨by omega, by unfold SkD; omega⟩, rfl⟩
    · have g61 := (neI (x := (fIC σ p0 270)) (y := (Int32.ofInt 63)) h61 : ¬ ((fIC σ p0 270) : Int32).toInt = ((Int32.ofInt 63) : Int32).toInt)
      refine hB _ _ _ _ _ (fun m65 hm65 => ?_)
      dsimp only [ucgo, ucwp, ucsC, uqC, uoC, ctC, rfd, KX8_isPart, KX8_isPart_0, KX8_isPart_9, KX8_isPart_18, KX8_isPart_27, KX8_isPart_36, KX8_isPart_45, KX8_isPart_49, KX8_isPart_50, lkC, s1C, s2C, dlC, kyC, Nat.beq, Nat.ble, rcd, rno, rsw, Nat.reduceAdd, Nat.reduceBEq, Nat.reduceDiv, List.drop, List.take, List.reverse, List.reverseAux, Int.toNat, Option.toList, List.append, List.cons_append, List.nil_append, zg270]
      intro a66 e66 ob66
      cases e66
      have c67 : (Int32.ofInt 92).toInt = 92 := by decide
      refine ⟨fun h68 => ?_, fun h68 => ?_⟩
      · have g68 := (eqI (x := (fIC σ p0 270)) (y := (Int32.ofInt 92)) h68 : ((fIC σ p0 270) : Int32).toInt = ((Int32.ofInt 92) : Int32).toInt)
        refine hB _ _ _ _ _ (fun m69 hm69 => ?_)
        dsimp only [ucgo, ucwp, ucsC, uqC, uoC, ctC, rfd, KX8_isPart, KX8_isPart_0, KX8_isPart_9, KX8_isPart_18, KX8_isPart_27, KX8_isPart_36, KX8_isPart_45, KX8_isPart_49, KX8_isPart_50, lkC, s1C, s2C, dlC, kyC, Nat.beq, Nat.ble, rcd, rno, rsw, Nat.reduceAdd, Nat.reduceBEq, Nat.reduceDiv, List.drop, List.take, List.reverse, List.reverseAux, Int.toNat, Option.toList, List.append, List.cons_append, List.nil_append, zg270]
        have c70 : (Int32.ofInt 1).toInt = 1 := by decide
        refine hB _ _ _ _ _ (fun m71 hm71 => ?_)
        dsimp only [ucgo, ucwp, ucsC, uqC, uoC, ctC, rfd, KX8_isPart, KX8_isPart_0, KX8_isPart_9, KX8_isPart_18, KX8_isPart_27, KX8_isPart_36, KX8_isPart_45, KX8_isPart_49, KX8_isPart_50, lkC, s1C, s2C, dlC, kyC, Nat.beq, Nat.ble, rcd, rno, rsw, Nat.reduceAdd, Nat.reduceBEq, Nat.reduceDiv, List.drop, List.take, List.reverse, List.reverseAux, Int.toNat, Option.toList, List.append, List.cons_append, List.nil_append, zg270]
        try dsimp only [Qz_isPart]
        exact ⟨_, rfl, Or.inl ⟨by omega, by unfold SkD; omega⟩, rfl⟩
      · have g68 := (neI (x := (fIC σ p0 270)) (y := (Int32.ofInt 92)) h68 : ¬ ((fIC σ p0 270) : Int32).toInt = ((Int32.ofInt 92) : Int32).toInt)
        refine hB _ _ _ _ _ (fun m72 hm72 => ?_)
        dsimp only [ucgo, ucwp, ucsC, uqC, uoC, ctC, rfd, KX8_isPart, KX8_isPart_0, KX8_isPart_9, KX8_isPart_18, KX8_isPart_27, KX8_isPart_36, KX8_isPart_45, KX8_isPart_49, KX8_isPart_50, lkC, s1C, s2C, dlC, kyC, Nat.beq, Nat.ble, rcd, rno, rsw, Nat.reduceAdd, Nat.reduceBEq, Nat.reduceDiv, List.drop, List.take, List.reverse, List.reverseAux, Int.toNat, Option.toList, List.append, List.cons_append, List.nil_append, zg270]
        intro a73 e73 ob73
        cases e73
        have c74 : (Int32.ofInt 93).toInt = 93 := by decide
        refine ⟨fun h75 => ?_, fun h75 => ?_⟩
        · have g75 := (eqI (x := (fIC σ p0 270)) (y := (Int32.ofInt 93)) h75 : ((fIC σ p0 270) : Int32).toInt = ((Int32.ofInt 93) : Int32).toInt)
          refine hB _ _ _ _ _ (fun m76 hm76 => ?_)
          dsimp only [ucgo, ucwp, ucsC, uqC, uoC, ctC, rfd, KX8_isPart, KX8_isPart_0, KX8_isPart_9, KX8_isPart_18, KX8_isPart_27, KX8_isPart_36, KX8_isPart_45, KX8_isPart_49, KX8_isPart_50, lkC, s1C, s2C, dlC, kyC, Nat.beq, Nat.ble, rcd, rno, rsw, Nat.reduceAdd, Nat.reduceBEq, Nat.reduceDiv, List.drop, List.take, List.reverse, List.reverseAux, Int.toNat, Option.toList, List.append, List.cons_append, List.nil_append, zg270]
          have c77 : (Int32.ofInt 1).toInt = 1 := by decide
          refine hB _ _ _ _ _ (fun m78 hm78 => ?_)
          dsimp only [ucgo, ucwp, ucsC, uqC, uoC, ctC, rfd, KX8_isPart, KX8_isPart_0, KX8_isPart_9, KX8_isPart_18, KX8_isPart_27, KX8_isPart_36, KX8_isPart_45, KX8_isPart_49, KX8_isPart_50, lkC, s1C, s2C, dlC, kyC, Nat.beq, Nat.ble, rcd, rno, rsw, Nat.reduceAdd, Nat.reduceBEq, Nat.reduceDiv, List.drop, List.take, List.reverse, List.reverseAux, Int.toNat, Option.toList, List.append, List.cons_append, List.nil_append, zg270]
          try dsimp only [Qz_isPart]
          exact ⟨_, rfl, Or.inl ⟨by omega, by unfold SkD; omega⟩, rfl⟩
        · have g75 := (neI (x := (fIC σ p0 270)) (y := (Int32.ofInt 93)) h75 : ¬ ((fIC σ p0 270) : Int32).toInt = ((Int32.ofInt 93) : Int32).toInt)
          refine hB _ _ _ _ _ (fun m79 hm79 => ?_)
          dsimp only [ucgo, ucwp, ucsC, uqC, uoC, ctC, rfd, KX8_isPart, KX8_isPart_0, KX8_isPart_9, KX8_isPart_18, KX8_isPart_27, KX8_isPart_36, KX8_isPart_45, KX8_isPart_49, KX8_isPart_50, lkC, s1C, s2C, dlC, kyC, Nat.beq, Nat.ble, rcd, rno, rsw, Nat.reduceAdd, Nat.reduceBEq, Nat.reduceDiv, List.drop, List.take, List.reverse, List.reverseAux, Int.toNat, Option.toList, List.append, List.cons_append, List.nil_append, zg270]
          intro a80 e80 ob80
          cases e80
          have c81 : (Int32.ofInt 94).toInt = 94 := by decide
          refine ⟨fun h82 => ?_, fun h82 => ?_⟩
          · have g82 := (neI (x := (fIC σ p0 270)) (y := (Int32.ofInt 94)) h82 : ¬ ((fIC σ p0 270) : Int32).toInt = ((Int32.ofInt 94) : Int32).toInt)
            refine hB _ _ _ _ _ (fun m83 hm83 => ?_)
            dsimp only [ucgo, ucwp, ucsC, uqC, uoC, ctC, rfd, KX8_isPart, KX8_isPart_0, KX8_isPart_9, KX8_isPart_18, KX8_isPart_27, KX8_isPart_36, KX8_isPart_45, KX8_isPart_49, KX8_isPart_50, lkC, s1C, s2C, dlC, kyC, Nat.beq, Nat.ble, rcd, rno, rsw, Nat.reduceAdd, Nat.reduceBEq, Nat.reduceDiv, List.drop, List.take, List.reverse, List.reverseAux, Int.toNat, Option.toList, List.append, List.cons_append, List.nil_append, zg270]
            have c84 : (Int32.ofInt 0).toInt = 0 := by decide
            refine hB _ _ _ _ _ (fun m85 hm85 => ?_)
            dsimp only [ucgo, ucwp, ucsC, uqC, uoC, ctC, rfd, KX8_isPart, KX8_isPart_0, KX8_isPart_9, KX8_isPart_18, KX8_isPart_27, KX8_isPart_36, KX8_isPart_45, KX8_isPart_49, KX8_isPart_50, lkC, s1C, s2C, dlC, kyC, Nat.beq, Nat.ble, rcd, rno, rsw, Nat.reduceAdd, Nat.reduceBEq, Nat.reduceDiv, List.drop, List.take, List.reverse, List.reverseAux, Int.toNat, Option.toList, List.append, List.cons_append, List.nil_append, zg270]
            try dsimp only [Qz_isPart]
            exact ⟨_, rfl, Or.inr ⟨by omega, by unfold SkD; omega⟩, rfl⟩
          · have g82 := (eqI (x := (fIC σ p0 270)) (y := (Int32.ofInt 94)) h82 : ((fIC σ p0 270) : Int32).toInt = ((Int32.ofInt 94) : Int32).toInt)
            refine hB _ _ _ _ _ (fun m86 hm86 => ?_)
            dsimp only [ucgo, ucwp, ucsC, uqC, uoC, ctC, rfd, KX8_isPart, KX8_isPart_0, KX8_isPart_9, KX8_isPart_18, KX8_isPart_27, KX8_isPart_36, KX8_isPart_45, KX8_isPart_49, KX8_isPart_50, lkC, s1C, s2C, dlC, kyC, Nat.beq, Nat.ble, rcd, rno, rsw, Nat.reduceAdd, Nat.reduceBEq, Nat.reduceDiv, List.drop, List.take, List.reverse, List.reverseAux, Int.toNat, Option.toList, List.append, List.cons_append, List.nil_append, zg270]
            have c87 : (Int32.ofInt 1).toInt = 1 := by decide
            refine hB _ _ _ _ _ (fun m88 hm88 => ?_)
            dsimp only [ucgo, ucwp, ucsC, uqC, uoC, ctC, rfd, KX8_isPart, KX8_isPart_0, KX8_isPart_9, KX8_isPart_18, KX8_isPart_27, KX8_isPart_36, KX8_isPart_45, KX8_isPart_49, KX8_isPart_50, lkC, s1C, s2C, dlC, kyC, Nat.beq, Nat.ble, rcd, rno, rsw, Nat.reduceAdd, Nat.reduceBEq, Nat.reduceDiv, List.drop, List.take, List.reverse, List.reverseAux, Int.toNat, Option.toList, List.append, List.cons_append, List.nil_append, zg270]
            try dsimp only [Qz_isPart]
            exact ⟨_, rfl, Or.inl ⟨by omega, by unfold SkD; omega⟩, rfl⟩
theorem wz_isPart : ∀ (L : Nat) (As : List AvC) (σ : CsC) (w : Option AvC) (τ : CsC), EvF L 180 As σ w τ → Uz_isPart As σ w τ := by
  intro L
  cases L with
  | zero => exact fun _ _ _ _ h => h.elim
  | succ L => exact fun As σ w τ h y hy => EvF.us (cs := []) (pz_isPart y) rfl (fun _ h => absurd h List.not_mem_nil) h hy
abbrev Pz_statementAt : ((Int → Int) × (Nat → Nat) × (Nat → Nat) × (Nat → Nat) × (Nat → Nat) × ZS) → CpC := fun y As σ => match y with
  | (N, E, A, B, V, z) => ∃ (p1 : Int32), As = [.inr (.inr (some (E 1))), .inl p1] ∧ (StL E B σ z)
abbrev Qz_statementAt : ((Int → Int) × (Nat → Nat) × (Nat → Nat) × (Nat → Nat) × (Nat → Nat) × ZS) → CqC := fun y As σ w τ => match y, As with
  | (N, E, A, B, V, z), [_, .inl p1] => σ = τ ∧ ((w = some (.inr (.inr none)) ∧ ∀ q, q < snM z → ¬ EqS z q p1.toInt) ∨ ∃ q, q < snM z ∧ w = some (.inr (.inr (some (B q)))) ∧ EqS z q p1.toInt)
  | _, _ => True
abbrev Uz_statementAt : CqC := fun As σ w τ => ∀ y, Pz_statementAt y As σ → Qz_statementAt y As σ w τ
set_option maxHeartbeats 4000000 in
theorem pz_statementAt (y : (Int → Int) × (Nat → Nat) × (Nat → Nat) × (Nat → Nat) × (Nat → Nat) × ZS) : PbC KX6_statementAt [(234, TrP, EqC 234), (235, TrP, EqC 235), (180, TrP, EqC 180)] [(180, Uz_isPart)] (fun As σ => Pz_statementAt y As σ ∧ cnC σ ≤ 1000000 ∧ ∃ w τ, uqC quL 121 As σ w τ) (Qz_statementAt y) := by
  obtain ⟨N, E, A, B, V, z⟩ := y
  rintro As σ ⟨⟨p1, rfl, hSL⟩, hcn, _, _, hQ⟩ K hB hW n_
  have hl9 := hSL.2.2.2
  have L2 : ∀ (n : Nat) (i : Int32), (0 ≤ i.toInt) → (i.toInt ≤ (snM z : Int)) → (∀ q, q < i.toInt.toNat → ¬ EqS z q p1.toInt) →  K n 2 [(0, .inr (.inr (some (E 1)))), (1, .inl p1), (2, .inl i)] [] σ := by
    intro n
    induction n using Nat.strongRecOn with
    | _ n ih =>
      intro i h1 h2 hno
      have hli := hSL.2.1
      refine hB _ _ _ _ _ (fun m51 hm51 => ?_)
      dsimp only [ucgo, ucwp, ucsC, uqC, uoC, ctC, rfd, KX6_statementAt, KX6_statementAt_0, KX6_statementAt_2, KX6_statementAt_13, KX6_statementAt_33, KX6_statementAt_40, KX6_statementAt_42, KX6_statementAt_48, lkC, s1C, s2C, dlC, kyC, Nat.beq, Nat.ble, rcd, rno, rsw, Nat.reduceAdd, Nat.reduceBEq, Nat.reduceDiv, List.drop, List.take, List.reverse, List.reverseAux, Int.toNat, Option.toList, List.append, List.cons_append, List.nil_append, zg214, zg271]
      intro a52 e52 ob52
      cases e52
      rw [hSL.1]
      try dsimp only
      intro w54 τ54 o54 q54
      obtain ⟨r54, rfl, rfl, hr54a, hr54b, hr54, -⟩ := (show Q_Jx4a65c_size_8abf5 [.inr (.inr (some (E 214)))] σ w54 τ54 from o54.1.1)
      have hs54_ : r54.toInt = ((snM z) : Int) := by rw [← hr54]; exact hli.1
      try dsimp only [Option.toList, List.cons_append, List.nil_append, s1C, s2C, dlC, kyC, Nat.beq, lkC, rcd, rno, rsw]
      refine ⟨fun h55 => ?_, fun h55 => ?_⟩
      · have g55 := leI (x := r54) (y := i) h55
        refine hB _ _ _ _ _ (fun m56 hm56 => ?_)
        dsimp only [ucgo, ucwp, ucsC, uqC, uoC, ctC, rfd, KX6_statementAt, KX6_statementAt_0, KX6_statementAt_2, KX6_statementAt_13, KX6_statementAt_33, KX6_statementAt_40, KX6_statementAt_42, KX6_statementAt_48, lkC, s1C, s2C, dlC, kyC, Nat.beq, Nat.ble, rcd, rno, rsw, Nat.reduceAdd, Nat.reduceBEq, Nat.reduceDiv, List.drop, List.take, List.reverse, List.reverseAux, Int.toNat, Option.toList, List.append, List.cons_append, List.nil_append, zg214, zg271]
        try dsimp only [Qz_statementAt]
        exact ⟨rfl, Or.inl ⟨rfl, fun q hq => hno q (by omega)⟩⟩
      · have g55 := nleI (x := r54) (y := i) h55
        obtain ⟨ki, hki⟩ : ∃ q, i.toInt.toNat = q := ⟨_, rfl⟩
        have hlki : ki < (snM z) := by omega
        obtain ⟨ob, hob⟩ : ∃ o, B ki = o := ⟨_, rfl⟩
        refine hB _ _ _ _ _ (fun m57 hm57 => ?_)
        dsimp only [ucgo, ucwp, ucsC, uqC, uoC, ctC, rfd, KX6_statementAt, KX6_statementAt_0, KX6_statementAt_2, KX6_statementAt_13, KX6_statementAt_33, KX6_statementAt_40, KX6_statementAt_42, KX6_statementAt_48, lkC, s1C, s2C, dlC, kyC, Nat.beq, Nat.ble, rcd, rno, rsw, Nat.reduceAdd, Nat.reduceBEq, Nat.reduceDiv, List.drop, List.take, List.reverse, List.reverseAux, Int.toNat, Option.toList, List.append, List.cons_append, List.nil_append, zg214, zg271]
        intro a58 e58 ob58
        cases e58
        rw [hSL.1]
        try dsimp only
        intro w60 τ60 o60 q60
        have hg60 : Q_Jx4a65c_get_915e3 [.inr (.inr (some (E 214))), .inl i] σ w60 τ60 ∧ U_get [.inr (.inr (some (E 214))), .inl i] σ w60 τ60 := o60.1.1
        obtain ⟨b60, rfl, rfl, -⟩ := hg60.1
        have he60 := hg60.2 b60 rfl
        have hv60 := hli.2 ki hlki
        try dsimp only at hv60
        obtain rfl : ob = b60 := hob.symm.trans (Option.some.inj (hv60.1.symm.trans (by rw [← hki, ← nT_toNat]; exact he60)))
        try dsimp only [Option.toList, List.cons_append, List.nil_append, s1C, s2C, dlC, kyC, Nat.beq, lkC, rcd, rno, rsw]
        intro oc61
        intro a62 e62 ob62
        cases e62
        have f63 : (fIC σ ob 271).toInt = fiS z ki := by rw [← hob]; exact (hSL.2.2.1 ki hlki).2
        refine ⟨fun h64 => ?_, fun h64 => ?_⟩
        · have g64 := (neI (x := (fIC σ ob 271)) (y := p1) h64 : ¬ ((fIC σ ob 271) : Int32).toInt = (p1 : Int32).toInt)
          refine hB _ _ _ _ _ (fun m65 hm65 => ?_)
          dsimp only [ucgo, ucwp, ucsC, uqC, uoC, ctC, rfd, KX6_statementAt, KX6_statementAt_0, KX6_statementAt_2, KX6_statementAt_13, KX6_statementAt_33, KX6_statementAt_40, KX6_statementAt_42, KX6_statementAt_48, lkC, s1C, s2C, dlC, kyC, Nat.beq, Nat.ble, rcd, rno, rsw, Nat.reduceAdd, Nat.reduceBEq, Nat.reduceDiv, List.drop, List.take, List.reverse, List.reverseAux, Int.toNat, Option.toList, List.append, List.cons_append, List.nil_append, zg214, zg271]
          have c66 : (Int32.ofInt 1).toInt = 1 := by decide
          have u67 := tiC i
          have a67 : (i + (Int32.ofInt 1)).toInt = i.toInt + 1 := addC (by omega) (by omega) (by omega)
          exact hW _ 2 [(0, .inr (.inr (some (E 1)))), (1, .inl p1), (2, .inl (i + (Int32.ofInt 1)))] _ _ _ (List.forall_mem_cons.2 ⟨List.Mem.tail _ (List.Mem.tail _ (List.Mem.head _)), List.forall_mem_cons.2 ⟨List.Mem.tail _ (List.Mem.tail _ (List.Mem.tail _ (List.Mem.head _))), List.forall_mem_cons.2 ⟨List.Mem.head _, fun _ h => absurd h List.not_mem_nil⟩⟩⟩) (ih _ (by omega) (i + (Int32.ofInt 1)) (by omega) (by omega) (fun q hq => by
            by_cases c9 : q = ki
            · rw [c9]
              exact fun q9 => by
                have q8 : fiS z ki = p1.toInt := q9.1
                omega
            · exact hno q (by omega)))
        · have g64 := (eqI (x := (fIC σ ob 271)) (y := p1) h64 : ((fIC σ ob 271) : Int32).toInt = (p1 : Int32).toInt)
          refine hB _ _ _ _ _ (fun m68 hm68 => ?_)
          dsimp only [ucgo, ucwp, ucsC, uqC, uoC, ctC, rfd, KX6_statementAt, KX6_statementAt_0, KX6_statementAt_2, KX6_statementAt_13, KX6_statementAt_33, KX6_statementAt_40, KX6_statementAt_42, KX6_statementAt_48, lkC, s1C, s2C, dlC, kyC, Nat.beq, Nat.ble, rcd, rno, rsw, Nat.reduceAdd, Nat.reduceBEq, Nat.reduceDiv, List.drop, List.take, List.reverse, List.reverseAux, Int.toNat, Option.toList, List.append, List.cons_append, List.nil_append, zg214, zg271]
          intro w69 τ69 o69 q69
          obtain ⟨r69, rfl, hr69, rfl⟩ := q69 (N, E, A, B, V, z, ki) ⟨_, rfl, by rw [← hob]; exact (hSL.2.2.1 ki hlki).1⟩
          try dsimp only [Option.toList, List.cons_append, List.nil_append, s1C, s2C, dlC, kyC, Nat.beq, lkC, rcd, rno, rsw]
          refine ⟨fun h70 => ?_, fun h70 => ?_⟩
          · have g70 := (neI (x := r69) (y := 0) h70 : ¬ (r69 : Int32).toInt = (0 : Int32).toInt)
            have z0_ : (0 : Int32).toInt = 0 := rfl
            refine hB _ _ _ _ _ (fun m71 hm71 => ?_)
            dsimp only [ucgo, ucwp, ucsC, uqC, uoC, ctC, rfd, KX6_statementAt, KX6_statementAt_0, KX6_statementAt_2, KX6_statementAt_13, KX6_statementAt_33, KX6_statementAt_40, KX6_statementAt_42, KX6_statementAt_48, lkC, s1C, s2C, dlC, kyC, Nat.beq, Nat.ble, rcd, rno, rsw, Nat.reduceAdd, Nat.reduceBEq, Nat.reduceDiv, List.drop, List.take, List.reverse, List.reverseAux, Int.toNat, Option.toList, List.append, List.cons_append, List.nil_append, zg214, zg271]
            have c72 : (Int32.ofInt 1).toInt = 1 := by decide
            have u73 := tiC i
            have a73 : (i + (Int32.ofInt 1)).toInt = i.toInt + 1 := addC (by omega) (by omega) (by omega)
            exact hW _ 2 [(0, .inr (.inr (some (E 1)))), (1, .inl p1), (2, .inl (i + (Int32.ofInt 1)))] _ _ _ (List.forall_mem_cons.2 ⟨List.Mem.tail _ (List.Mem.tail _ (List.Mem.head _)), List.forall_mem_cons.2 ⟨List.Mem.tail _ (List.Mem.tail _ (List.Mem.tail _ (List.Mem.head _))), List.forall_mem_cons.2 ⟨List.Mem.head _, fun _ h => absurd h List.not_mem_nil⟩⟩⟩) (ih _ (by omega) (i + (Int32.ofInt 1)) (by omega) (by omega) (fun q hq => by
              by_cases c9 : q = ki
              · rw [c9]
                exact fun q9 => absurd q9.2 (by rcases hr69 with q7 | q7; exact q7.2; exact absurd q7.1 (by omega))
              · exact hno q (by omega)))
          · have g70 := (eqI (x := r69) (y := 0) h70 : (r69 : Int32).toInt = (0 : Int32).toInt)
            have z0_ : (0 : Int32).toInt = 0 := rfl
            refine hB _ _ _ _ _ (fun m74 hm74 => ?_)
            dsimp only [ucgo, ucwp, ucsC, uqC, uoC, ctC, rfd, KX6_statementAt, KX6_statementAt_0, KX6_statementAt_2, KX6_statementAt_13, KX6_statementAt_33, KX6_statementAt_40, KX6_statementAt_42, KX6_statementAt_48, lkC, s1C, s2C, dlC, kyC, Nat.beq, Nat.ble, rcd, rno, rsw, Nat.reduceAdd, Nat.reduceBEq, Nat.reduceDiv, List.drop, List.take, List.reverse, List.reverseAux, Int.toNat, Option.toList, List.append, List.cons_append, List.nil_append, zg214, zg271]
            try dsimp only [Qz_statementAt]
            exact ⟨rfl, Or.inr ⟨ki, hlki, by rw [hob], by show fiS z ki = _; omega, (by rcases hr69 with q7 | q7; exact absurd q7.1 (by omega); exact q7.2)⟩⟩
  change K n_ 0 [(0, .inr (.inr (some (E 1)))), (1, .inl p1)] [] σ
  refine hB _ _ _ _ _ (fun m75 hm75 => ?_)
  dsimp only [ucgo, ucwp, ucsC, uqC, uoC, ctC, rfd, KX6_statementAt, KX6_statementAt_0, KX6_statementAt_2, KX6_statementAt_13, KX6_statementAt_33, KX6_statementAt_40, KX6_statementAt_42, KX6_statementAt_48, lkC, s1C, s2C, dlC, kyC, Nat.beq, Nat.ble, rcd, rno, rsw, Nat.reduceAdd, Nat.reduceBEq, Nat.reduceDiv, List.drop, List.take, List.reverse, List.reverseAux, Int.toNat, Option.toList, List.append, List.cons_append, List.nil_append, zg214, zg271]
  have c76 : (Int32.ofInt 0).toInt = 0 := by decide
  exact hW _ 2 [(0, .inr (.inr (some (E 1)))), (1, .inl p1), (2, .inl (Int32.ofInt 0))] _ _ _ (List.forall_mem_cons.2 ⟨List.Mem.tail _ (List.Mem.head _), List.forall_mem_cons.2 ⟨List.Mem.tail _ (List.Mem.tail _ (List.Mem.head _)), List.forall_mem_cons.2 ⟨List.Mem.head _, fun _ h => absurd h List.not_mem_nil⟩⟩⟩) (L2 _ (Int32.ofInt 0) (by omega) (by omega) (fun q hq => absurd hq (by omega)))
theorem wz_statementAt : ∀ (L : Nat) (As : List AvC) (σ : CsC) (w : Option AvC) (τ : CsC), EvF L 121 As σ w τ → Uz_statementAt As σ w τ := by
  intro L
  cases L with
  | zero => exact fun _ _ _ _ h => h.elim
  | succ L => exact fun As σ w τ h y hy => EvF.us (cs := [234, 235, 180]) (pz_statementAt y) rfl (List.forall_mem_cons.2 ⟨fun _ _ _ _ _ => trivial, List.forall_mem_cons.2 ⟨fun _ _ _ _ _ => trivial, List.forall_mem_cons.2 ⟨wz_isPart L, fun _ h => absurd h List.not_mem_nil⟩⟩⟩) h hy
