/-! chains -/
def WxX : WtZ → Option Nat → LoT → Prop
  | [], p, X => p = none ∧ X = []
  | (sg, f, st, a, mq) :: W, p, X => ∃ o nx Y, p = some o ∧ X = (o, recZ 7 sg f 0 f (-1) 0 st a (-1) (-1) mq [], nx) :: Y ∧ WxX W nx Y
theorem str_00 (c : Int) : 0 ≤ strZ c := by
  unfold strZ
  repeat' split
  all_goals omega
theorem csr_cc {p : Int} : ∀ (W : WtZ) (r : Int × Int), csrZ 0 (cswZ p W) (csrZ p W r) = csrZ 0 W r := by
  intro W
  induction W with
  | nil => intro r; rfl
  | cons w W ih =>
    obtain ⟨sg, f, st, a, mq⟩ := w
    intro r
    rw [cswZ, csrZ]
    by_cases q : p ≤ strZ sg
    · rw [if_pos q, if_pos q, ih]
      rw [csrZ, if_pos (str_00 sg)]
    · rw [if_neg q, if_neg q]
theorem clM_0 {W : WtZ} {z : ZS} (h : W = []) : clM 0 W z = z := by subst h; rfl
abbrev Pz_closed : ((Int → Int) × (Nat → Nat) × (Nat → Nat) × (Nat → Nat) × (Nat → Nat) × ZS × Int × Int × Int × Int × Int) → CpC := fun y As σ => match y with
  | (N, E, A, B, V, z, sg, f, st, a, mq) => ∃ (p1 : Nat) (p2 : Nat), As = [.inr (.inr (some (E 0))), .inr (.inr (some p1)), .inr (.inr (some p2))] ∧ (ZC N E A B V σ z) ∧ ((p1 < cnC σ ∧ oprX (recZ 7 sg f 0 f (-1) 0 st a (-1) (-1) mq []) (xnM z) ∧ ∀ i, i < xnM z → A i ≠ p1) ∧ XbC A σ (recZ 7 sg f 0 f (-1) 0 st a (-1) (-1) mq []) p1 ∧ XiC N σ (recZ 7 sg f 0 f (-1) 0 st a (-1) (-1) mq []) p1) ∧ (0 < xnM z ∧ p2 = A (xnM z - 1))
abbrev Qz_closed : ((Int → Int) × (Nat → Nat) × (Nat → Nat) × (Nat → Nat) × (Nat → Nat) × ZS × Int × Int × Int × Int × Int) → CqC := fun y As σ w τ => match y, As with
  | (N, E, A, B, V, z, sg, f, st, a, mq), [_, .inr (.inr (some p1)), .inr (.inr (some p2))] => w = some (.inr (.inr (some p1))) ∧ ZC N E (upA A (xnM z) p1) B V τ (puM (chnZ sg f st a mq (xnM z) z.1) z) ∧ PoX p1 σ τ ∧ fRC τ p1 75 = none
  | _, _ => True
abbrev Uz_closed : CqC := fun As σ w τ => ∀ y, Pz_closed y As σ → Qz_closed y As σ w τ
set_option maxHeartbeats 4000000 in
theorem pz_closed (y : (Int → Int) × (Nat → Nat) × (Nat → Nat) × (Nat → Nat) × (Nat → Nat) × ZS × Int × Int × Int × Int × Int) : PbC KX7_closed [(161, TrP, EqC 161)] [(161, Uz_put)] (fun As σ => Pz_closed y As σ ∧ cnC σ ≤ 1000000 ∧ ∃ w τ, uqC quL 169 As σ w τ) (Qz_closed y) := by
  obtain ⟨N, E, A, B, V, z, sg, f, st, a, mq⟩ := y
  rintro As σ ⟨⟨p1, p2, rfl, hZ, hl, hr⟩, hcn, _, _, hQ⟩ K hB hW n_
  have hH : HI0 σ ∧ TyC σ (E 0) 8 := hQ
  have hat := hZ.at0 hH
  have hL0 : LsX N A 0 σ z [(p1, (recZ 7 sg f 0 f (-1) 0 st a (-1) (-1) mq []), fRC σ p1 75)] := LsX.cn LsX.nil ⟨⟨Nat.zero_le _, hl.1.1, hl.1.2.1, hl.1.2.2⟩, hl.2.1, hl.2.2, rfl⟩ (fun q h => absurd h List.not_mem_nil)
  change K n_ 0 [(0, .inr (.inr (some (E 0)))), (1, .inr (.inr (some p1))), (2, .inr (.inr (some p2)))] [] σ
  refine hB _ _ _ _ _ (fun m51 hm51 => ?_)
  dsimp only [ucgo, ucwp, ucsC, uqC, uoC, ctC, rfd, KX7_closed, KX7_closed_0, lkC, s1C, s2C, dlC, kyC, Nat.beq, Nat.ble, rcd, rno, rsw, Nat.reduceAdd, Nat.reduceBEq, Nat.reduceDiv, List.drop, List.take, List.reverse, List.reverseAux, Int.toNat, Option.toList, List.append, List.cons_append, List.nil_append]
  intro a52 e52 ob52 fk52
  cases e52
  clear fk52 ob52
  generalize hs52 : pRC σ p1 73 (some p2) = s52
  have hx52 : XfE σ s52 := by rw [← hs52]; exact XfE.pR (by decide)
  have hra52 : ∀ a, a ≠ p1 → ∀ k, fIC s52 a k = fIC σ a k ∧ fLC s52 a k = fLC σ a k ∧ fRC s52 a k = fRC σ a k := by rw [← hs52]; exact rR_a
  have hZ52 := ZC.lo hZ hL0 hx52 hra52
  have hL52 : LsX N A 0 s52 z [(p1, (recZ 7 sg f 0 f (-1) 0 st a ((xnM z : Int) - 1) (-1) mq []), (fRC σ p1 75))] := by rw [← hs52]; exact LsX.s73 hL0 ((congrArg some hr.2).trans (opA_p hr.1).symm) (by omega)
  have hpo52 : PoX p1 σ s52 := by rw [← hs52]; exact PoX.pR
  intro a53 e53 ob53 fk53
  cases e53
  clear fk53 ob53
  generalize hs53 : pRC s52 p1 75 none = s53
  have hx53 : XfE s52 s53 := by rw [← hs53]; exact XfE.pR (by decide)
  have hra53 : ∀ a, a ≠ p1 → ∀ k, fIC s53 a k = fIC s52 a k ∧ fLC s53 a k = fLC s52 a k ∧ fRC s53 a k = fRC s52 a k := by rw [← hs53]; exact rR_a
  have hZ53 := ZC.lo hZ52 hL52 hx53 hra53
  have hL53 : LsX N A 0 s53 z [(p1, (recZ 7 sg f 0 f (-1) 0 st a ((xnM z : Int) - 1) (-1) mq []), none)] := by rw [← hs53]; exact LsX.s75 hL52
  have hpo53 : PoX p1 s52 s53 := by rw [← hs53]; exact PoX.pR
  intro w54 τ54 o54 q54
  have hh54 := LsX.hd hL53
  obtain ⟨rfl, hZ54, hpo54, hnx54⟩ := q54 (N, E, A, B, V, z, (recZ 7 sg f (zAt z.1 - 1) f (-1) 0 st a ((xnM z : Int) - 1) (-1) mq [])) ⟨_, rfl, hZ53, ⟨hh54.1.1.2, hh54.1.2.1, hh54.1.2.2.1⟩, rfl, ⟨fun a ha => absurd ha List.not_mem_nil, trivial⟩⟩
  try dsimp only [Option.toList, List.cons_append, List.nil_append, s1C, s2C, dlC, kyC, Nat.beq, lkC, rcd, rno, rsw]
  try dsimp only [Qz_closed]
  exact ⟨rfl, hZ54, (hpo52.tr hpo53).tr hpo54, (hnx54.trans hh54.1.2.2.2)⟩
theorem wz_closed : ∀ (L : Nat) (As : List AvC) (σ : CsC) (w : Option AvC) (τ : CsC), EvF L 169 As σ w τ → Uz_closed As σ w τ := by
  intro L
  cases L with
  | zero => exact fun _ _ _ _ h => h.elim
  | succ L => exact fun As σ w τ h y hy => EvF.us (cs := [161]) (pz_closed y) rfl (List.forall_mem_cons.2 ⟨wz_put L, fun _ h => absurd h List.not_mem_nil⟩) h hy
abbrev Pz_waitingFor : ((Int → Int) × (Nat → Nat) × (Nat → Nat) × (Nat → Nat) × (Nat → Nat) × ZS × Nat × Int × Int) → CpC := fun y As σ => match y with
  | (N, E, A, B, V, z, ai, f, st) => ∃ (p1 : Int32) (p2 : Nat) (p3 : Option Nat), As = [.inr (.inr (some (E 0))), .inl p1, .inr (.inr (some p2)), .inr (.inr p3)] ∧ (ZC N E A B V σ z) ∧ (p1.toInt = codY z.1) ∧ (ai < xnM z ∧ p2 = A ai) ∧ ((fIC σ p2 62).toInt = f ∧ (fIC σ p2 63).toInt = st) ∧ ((xnM z : Int) ≥ 0)
abbrev Qz_waitingFor : ((Int → Int) × (Nat → Nat) × (Nat → Nat) × (Nat → Nat) × (Nat → Nat) × ZS × Nat × Int × Int) → CqC := fun y As σ w τ => match y, As with
  | (N, E, A, B, V, z, ai, f, st), [_, .inl p1, .inr (.inr (some p2)), .inr (.inr p3)] => w = some (.inr (.inr (some (cnC σ)))) ∧ ∃ A2 : Nat → Nat, ZC N E A2 B V τ (fkM z) ∧ FzC (cnC σ) (xnM z) E A A2 B B V V z (fkM z) σ τ ∧ LsX N A2 (cnC σ) τ (fkM z) [(cnC σ, recZ 7 (codY z.1) f 0 f (-1) 0 st (ai : Int) (-1) (-1) (mkZ (xnM z) z.1) [], p3)]
  | _, _ => True
abbrev Uz_waitingFor : CqC := fun As σ w τ => ∀ y, Pz_waitingFor y As σ → Qz_waitingFor y As σ w τ
set_option maxHeartbeats 4000000 in
theorem pz_waitingFor (y : (Int → Int) × (Nat → Nat) × (Nat → Nat) × (Nat → Nat) × (Nat → Nat) × ZS × Nat × Int × Int) : PbC KX7_waitingFor [(17, TrP, EqC 17), (163, TrP, EqC 163)] [(17, Uz_Exp), (163, Uz_putMark)] (fun As σ => Pz_waitingFor y As σ ∧ cnC σ ≤ 1000000 ∧ ∃ w τ, uqC quL 168 As σ w τ) (Qz_waitingFor y) := by
  obtain ⟨N, E, A, B, V, z, ai, f, st⟩ := y
  rintro As σ ⟨⟨p1, p2, p3, rfl, hZ, hp1, hai, hff, hst⟩, hcn, _, _, hQ⟩ K hB hW n_
  have hH : HI0 σ ∧ TyC σ (E 0) 8 := hQ
  have hat := hZ.at0 hH
  change K n_ 0 [(0, .inr (.inr (some (E 0)))), (1, .inl p1), (2, .inr (.inr (some p2))), (3, .inr (.inr p3))] [] σ
  refine hB _ _ _ _ _ (fun m51 hm51 => ?_)
  dsimp only [ucgo, ucwp, ucsC, uqC, uoC, ctC, rfd, KX7_waitingFor, KX7_waitingFor_0, KX7_waitingFor_38, KX7_waitingFor_44, KX7_waitingFor_56, lkC, s1C, s2C, dlC, kyC, Nat.beq, Nat.ble, rcd, rno, rsw, Nat.reduceAdd, Nat.reduceBEq, Nat.reduceDiv, List.drop, List.take, List.reverse, List.reverseAux, Int.toNat, Option.toList, List.append, List.cons_append, List.nil_append, zg62, zg63]
  generalize hs52 : nOC σ 52 (nfC 2) 0 = s52
  have hZ52 : ZC N E A B V s52 z := ZC.nw hZ (fun a ha k => by rw [← hs52]; exact nO_a (Nat.ne_of_lt ha)) (by rw [← hs52]; exact ⟨rfl, rfl, rfl⟩) (by rw [← hs52]; exact Nat.le_succ _)
  have c53 : (Int32.ofInt 7).toInt = 7 := by decide
  intro a54 e54 ob54
  cases e54
  have f55 : (fIC s52 p2 62).toInt = f := by rw [← hs52, (nO_a (by have := (hZ.2.2.2.1.1.2 ai hai.1).2; rw [hai.2]; omega)).1]; exact hff.1
  intro a56 e56 ob56
  cases e56
  have f57 : (fIC s52 p2 63).toInt = st := by rw [← hs52, (nO_a (by have := (hZ.2.2.2.1.1.2 ai hai.1).2; rw [hai.2]; omega)).1]; exact hff.2
  intro w58 τ58 o58 q58
  obtain ⟨rfl, hi58⟩ := q58 (N, E, A, B, V, z) ⟨_, _, _, _, _, rfl⟩
  obtain ⟨hnw58, hg58, hg2_58⟩ := NwX.mk (A := A) (kk := 7) (ss := (codY z.1)) (ff := f) (tt := st) hs52 hi58 (by omega) (by omega) (by omega) (by omega)
  have hZ58 := ZC.nw hZ hg58 hg2_58 (by rw [hnw58.1.2]; exact Nat.le_succ _)
  have hf58 : FzC (cnC σ) (xnM z) E A A B B V V z z σ τ58 := FzC.nw hg58 hg2_58.1 (by rw [hnw58.1.2]; exact Nat.le_succ _) (Nat.le_refl _)
  have hF58 := FzC.tr (FzC.rf (n := cnC σ) (m := xnM z) (E := E) (A := A) (B := B) (V := V) (z := z) (σ := σ)) (FzC.mo hf58 (Nat.le_refl (cnC σ)) ((FzC.rf (n := cnC σ) (m := xnM z) (E := E) (A := A) (B := B) (V := V) (z := z) (σ := σ))).2.2.1.1.1)
  have hL58 := LsX.fz (LsX.nil (N := N) (A := A) (n0 := cnC σ) (σ := σ) (z := z)) hf58
  have hle58 : cnC σ ≤ cnC τ58 := Nat.le_trans (Nat.le_refl (cnC σ)) (hf58).1
  have hLn58 : LsX N A (cnC σ) τ58 z [((cnC σ), (recZ 7 (codY z.1) f 0 f (-1) 0 st (-1) (-1) (-1) (-1) []), none)] := LsX.nw hL58 (fun q hq => ((LsX.nil (N := N) (A := A) (n0 := cnC σ) (σ := σ) (z := z)).1 q hq).1.2.1) hnw58 (Nat.le_refl (cnC σ)) (by unfold oprX recZ; dsimp only; omega) (by show ¬ ((7 : Int) = 0 ∨ (7 : Int) = 1); omega) (fun i hi => (hZ.2.2.2.1.1.2 i hi).2)
  try dsimp only [Option.toList, List.cons_append, List.nil_append, s1C, s2C, dlC, kyC, Nat.beq, lkC, rcd, rno, rsw]
  intro a59 e59 ob59 fk59
  cases e59
  clear fk59 ob59
  generalize hs59 : pRC τ58 (cnC σ) 72 (some p2) = s59
  have hx59 : XfE τ58 s59 := by rw [← hs59]; exact XfE.pR (by decide)
  have hra59 : ∀ a, a ≠ (cnC σ) → ∀ k, fIC s59 a k = fIC τ58 a k ∧ fLC s59 a k = fLC τ58 a k ∧ fRC s59 a k = fRC τ58 a k := by rw [← hs59]; exact rR_a
  have hZ59 := ZC.lo hZ58 hLn58 hx59 hra59
  have hF59 := FzC.tr hF58 (FzC.lo (n := cnC σ) (m := xnM z) (E := E) (B := B) (V := V) hLn58 (Nat.le_refl _) hx59 hra59)
  have hL59 : LsX N A (cnC σ) s59 z [((cnC σ), (recZ 7 (codY z.1) f 0 f (-1) 0 st (ai : Int) (-1) (-1) (-1) []), none)] := by rw [← hs59]; exact LsX.s72 hLn58 (by rw [hai.2, opA_k]) (by omega)
  have hle59 : cnC σ ≤ cnC s59 := by rw [hx59.2.2]; exact hle58
  intro a60 e60 ob60 fk60
  cases e60
  clear fk60 ob60
  generalize hs60 : pRC s59 (cnC σ) 75 p3 = s60
  have hx60 : XfE s59 s60 := by rw [← hs60]; exact XfE.pR (by decide)
  have hra60 : ∀ a, a ≠ (cnC σ) → ∀ k, fIC s60 a k = fIC s59 a k ∧ fLC s60 a k = fLC s59 a k ∧ fRC s60 a k = fRC s59 a k := by rw [← hs60]; exact rR_a
  have hZ60 := ZC.lo hZ59 hL59 hx60 hra60
  have hF60 := FzC.tr hF59 (FzC.lo (n := cnC σ) (m := xnM z) (E := E) (B := B) (V := V) hL59 (Nat.le_refl _) hx60 hra60)
  have hL60 : LsX N A (cnC σ) s60 z [((cnC σ), (recZ 7 (codY z.1) f 0 f (-1) 0 st (ai : Int) (-1) (-1) (-1) []), p3)] := by rw [← hs60]; exact LsX.s75 hL59
  have hle60 : cnC σ ≤ cnC s60 := by rw [hx60.2.2]; exact hle59
  have c61 : (Int32.ofInt 21).toInt = 21 := by decide
  refine ⟨fun h62 => ?_, fun h62 => ?_⟩
  · have g62 := (eqI (x := p1) (y := (Int32.ofInt 21)) h62 : (p1 : Int32).toInt = ((Int32.ofInt 21) : Int32).toInt)
    refine hB _ _ _ _ _ (fun m63 hm63 => ?_)
    dsimp only [ucgo, ucwp, ucsC, uqC, uoC, ctC, rfd, KX7_waitingFor, KX7_waitingFor_0, KX7_waitingFor_38, KX7_waitingFor_44, KX7_waitingFor_56, lkC, s1C, s2C, dlC, kyC, Nat.beq, Nat.ble, rcd, rno, rsw, Nat.reduceAdd, Nat.reduceBEq, Nat.reduceDiv, List.drop, List.take, List.reverse, List.reverseAux, Int.toNat, Option.toList, List.append, List.cons_append, List.nil_append, zg62, zg63]
    have c64 : (Int32.ofInt 11).toInt = 11 := by decide
    intro w65 τ65 o65 q65
    obtain ⟨rfl, hZ65, hf65, hnk65⟩ := q65 (N, E, A, B, V, z, 11, (codY z.1)) ⟨_, _, rfl, hZ60, by omega, by omega, by omega⟩
    have hF65 := FzC.tr hF60 (FzC.mo hf65 hle60 (hF60).2.2.1.1.1)
    have hL65 := LsX.fz hL60 hf65
    have hle65 : cnC σ ≤ cnC τ65 := Nat.le_trans hle60 (hf65).1
    try dsimp only [Option.toList, List.cons_append, List.nil_append, s1C, s2C, dlC, kyC, Nat.beq, lkC, rcd, rno, rsw]
    intro a66 e66 ob66 fk66
    cases e66
    clear fk66 ob66
    generalize hs66 : pRC τ65 (cnC σ) 76 (some (cnC s60)) = s66
    have hx66 : XfE τ65 s66 := by rw [← hs66]; exact XfE.pR (by decide)
    have hra66 : ∀ a, a ≠ (cnC σ) → ∀ k, fIC s66 a k = fIC τ65 a k ∧ fLC s66 a k = fLC τ65 a k ∧ fRC s66 a k = fRC τ65 a k := by rw [← hs66]; exact rR_a
    have hZ66 := ZC.lo hZ65 hL65 hx66 hra66
    have hF66 := FzC.tr hF65 (FzC.lo (n := cnC σ) (m := xnM z) (E := E) (B := B) (V := V) hL65 (Nat.le_refl _) hx66 hra66)
    have hL66 : LsX N (upA A (xnM z) (cnC s60)) (cnC σ) s66 (puM (mkX 11 (codY z.1) z) z) [((cnC σ), (recZ 7 (codY z.1) f 0 f (-1) 0 st (ai : Int) (-1) (-1) (xnM z : Int) []), p3)] := by rw [← hs66]; exact LsX.s76 hL65 (by rw [opA_k, upA_e]) (by show (xnM z : Int) < ((xnM z + 1 : Nat) : Int); omega)
    have hle66 : cnC σ ≤ cnC s66 := by rw [hx66.2.2]; exact hle65
    refine hB _ _ _ _ _ (fun m67 hm67 => ?_)
    dsimp only [ucgo, ucwp, ucsC, uqC, uoC, ctC, rfd, KX7_waitingFor, KX7_waitingFor_0, KX7_waitingFor_38, KX7_waitingFor_44, KX7_waitingFor_56, lkC, s1C, s2C, dlC, kyC, Nat.beq, Nat.ble, rcd, rno, rsw, Nat.reduceAdd, Nat.reduceBEq, Nat.reduceDiv, List.drop, List.take, List.reverse, List.reverseAux, Int.toNat, Option.toList, List.append, List.cons_append, List.nil_append, zg62, zg63]
    try dsimp only [Qz_waitingFor]
    have ek : fkM z = puM (mkX 11 (codY z.1) z) z := if_pos (by omega)
    have em : mkZ (xnM z) z.1 = (xnM z : Int) := if_pos (by omega)
    rw [ek, em]
    exact ⟨rfl, _, hZ66, hF66, hL66⟩
  · have g62 := (neI (x := p1) (y := (Int32.ofInt 21)) h62 : ¬ (p1 : Int32).toInt = ((Int32.ofInt 21) : Int32).toInt)
    refine hB _ _ _ _ _ (fun m68 hm68 => ?_)
    dsimp only [ucgo, ucwp, ucsC, uqC, uoC, ctC, rfd, KX7_waitingFor, KX7_waitingFor_0, KX7_waitingFor_38, KX7_waitingFor_44, KX7_waitingFor_56, lkC, s1C, s2C, dlC, kyC, Nat.beq, Nat.ble, rcd, rno, rsw, Nat.reduceAdd, Nat.reduceBEq, Nat.reduceDiv, List.drop, List.take, List.reverse, List.reverseAux, Int.toNat, Option.toList, List.append, List.cons_append, List.nil_append, zg62, zg63]
    have c69 : (Int32.ofInt 20).toInt = 20 := by decide
    refine ⟨fun h70 => ?_, fun h70 => ?_⟩
    · have g70 := (neI (x := p1) (y := (Int32.ofInt 20)) h70 : ¬ (p1 : Int32).toInt = ((Int32.ofInt 20) : Int32).toInt)
      refine hB _ _ _ _ _ (fun m71 hm71 => ?_)
      dsimp only [ucgo, ucwp, ucsC, uqC, uoC, ctC, rfd, KX7_waitingFor, KX7_waitingFor_0, KX7_waitingFor_38, KX7_waitingFor_44, KX7_waitingFor_56, lkC, s1C, s2C, dlC, kyC, Nat.beq, Nat.ble, rcd, rno, rsw, Nat.reduceAdd, Nat.reduceBEq, Nat.reduceDiv, List.drop, List.take, List.reverse, List.reverseAux, Int.toNat, Option.toList, List.append, List.cons_append, List.nil_append, zg62, zg63]
      try dsimp only [Qz_waitingFor]
      have ek : fkM z = z := if_neg (by omega)
      have em : mkZ (xnM z) z.1 = -1 := if_neg (by omega)
      rw [ek, em]
      exact ⟨rfl, _, hZ60, hF60, hL60⟩
    · have g70 := (eqI (x := p1) (y := (Int32.ofInt 20)) h70 : (p1 : Int32).toInt = ((Int32.ofInt 20) : Int32).toInt)
      refine hB _ _ _ _ _ (fun m72 hm72 => ?_)
      dsimp only [ucgo, ucwp, ucsC, uqC, uoC, ctC, rfd, KX7_waitingFor, KX7_waitingFor_0, KX7_waitingFor_38, KX7_waitingFor_44, KX7_waitingFor_56, lkC, s1C, s2C, dlC, kyC, Nat.beq, Nat.ble, rcd, rno, rsw, Nat.reduceAdd, Nat.reduceBEq, Nat.reduceDiv, List.drop, List.take, List.reverse, List.reverseAux, Int.toNat, Option.toList, List.append, List.cons_append, List.nil_append, zg62, zg63]
      have c73 : (Int32.ofInt 11).toInt = 11 := by decide
      intro w74 τ74 o74 q74
      obtain ⟨rfl, hZ74, hf74, hnk74⟩ := q74 (N, E, A, B, V, z, 11, (codY z.1)) ⟨_, _, rfl, hZ60, by omega, by omega, by omega⟩
      have hF74 := FzC.tr hF60 (FzC.mo hf74 hle60 (hF60).2.2.1.1.1)
      have hL74 := LsX.fz hL60 hf74
      have hle74 : cnC σ ≤ cnC τ74 := Nat.le_trans hle60 (hf74).1
      try dsimp only [Option.toList, List.cons_append, List.nil_append, s1C, s2C, dlC, kyC, Nat.beq, lkC, rcd, rno, rsw]
      intro a75 e75 ob75 fk75
      cases e75
      clear fk75 ob75
      generalize hs75 : pRC τ74 (cnC σ) 76 (some (cnC s60)) = s75
      have hx75 : XfE τ74 s75 := by rw [← hs75]; exact XfE.pR (by decide)
      have hra75 : ∀ a, a ≠ (cnC σ) → ∀ k, fIC s75 a k = fIC τ74 a k ∧ fLC s75 a k = fLC τ74 a k ∧ fRC s75 a k = fRC τ74 a k := by rw [← hs75]; exact rR_a
      have hZ75 := ZC.lo hZ74 hL74 hx75 hra75
      have hF75 := FzC.tr hF74 (FzC.lo (n := cnC σ) (m := xnM z) (E := E) (B := B) (V := V) hL74 (Nat.le_refl _) hx75 hra75)
      have hL75 : LsX N (upA A (xnM z) (cnC s60)) (cnC σ) s75 (puM (mkX 11 (codY z.1) z) z) [((cnC σ), (recZ 7 (codY z.1) f 0 f (-1) 0 st (ai : Int) (-1) (-1) (xnM z : Int) []), p3)] := by rw [← hs75]; exact LsX.s76 hL74 (by rw [opA_k, upA_e]) (by show (xnM z : Int) < ((xnM z + 1 : Nat) : Int); omega)
      have hle75 : cnC σ ≤ cnC s75 := by rw [hx75.2.2]; exact hle74
      refine hB _ _ _ _ _ (fun m76 hm76 => ?_)
      dsimp only [ucgo, ucwp, ucsC, uqC, uoC, ctC, rfd, KX7_waitingFor, KX7_waitingFor_0, KX7_waitingFor_38, KX7_waitingFor_44, KX7_waitingFor_56, lkC, s1C, s2C, dlC, kyC, Nat.beq, Nat.ble, rcd, rno, rsw, Nat.reduceAdd, Nat.reduceBEq, Nat.reduceDiv, List.drop, List.take, List.reverse, List.reverseAux, Int.toNat, Option.toList, List.append, List.cons_append, List.nil_append, zg62, zg63]
      try dsimp only [Qz_waitingFor]
      have ek : fkM z = puM (mkX 11 (codY z.1) z) z := if_pos (by omega)
      have em : mkZ (xnM z) z.1 = (xnM z : Int) := if_pos (by omega)
      rw [ek, em]
      exact ⟨rfl, _, hZ75, hF75, hL75⟩
theorem wz_waitingFor : ∀ (L : Nat) (As : List AvC) (σ : CsC) (w : Option AvC) (τ : CsC), EvF L 168 As σ w τ → Uz_waitingFor As σ w τ := by
  intro L
  cases L with
  | zero => exact fun _ _ _ _ h => h.elim
  | succ L => exact fun As σ w τ h y hy => EvF.us (cs := [17, 163]) (pz_waitingFor y) rfl (List.forall_mem_cons.2 ⟨wz_Exp L, List.forall_mem_cons.2 ⟨wz_putMark L, fun _ h => absurd h List.not_mem_nil⟩⟩) h hy
