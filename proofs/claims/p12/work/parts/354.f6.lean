abbrev Pz_behindTold : ((Int → Int) × (Nat → Nat) × (Nat → Nat) × (Nat → Nat) × (Nat → Nat) × ZS × TbT × MfT × Nat × Nat × GzA) → CpC := fun y As σ => match y with
  | (N, E, A, B, V, z, T, ms, nm, j, g) => ∃ (p1 : Nat) (p2 : Int64), As = [.inr (.inr (some (E 4))), .inr (.inr (some p1)), .inr (.inl p2)] ∧ (SsC E A B σ z T ms nm) ∧ (PfC E σ) ∧ (TgC N B σ z) ∧ (WfS z T ∧ UpS z ∧ BiC B z ∧ SxS z) ∧ (j < snM z) ∧ (p1 = B j) ∧ (AzC E B σ z g)
abbrev Qz_behindTold : ((Int → Int) × (Nat → Nat) × (Nat → Nat) × (Nat → Nat) × (Nat → Nat) × ZS × TbT × MfT × Nat × Nat × GzA) → CqC := fun y As σ w τ => match y, As with
  | (N, E, A, B, V, z, T, ms, nm, j, g), [_, .inr (.inr (some p1)), .inr (.inl p2)] => ∃ r, w = some (.inr (.inl r)) ∧ r = (tdA z T j p2 g).1 ∧ AzC E B τ z (tdA z T j p2 g).2
  | _, _ => True
abbrev Uz_behindTold : CqC := fun As σ w τ => ∀ y, Pz_behindTold y As σ → Qz_behindTold y As σ w τ
set_option maxHeartbeats 4000000 in
theorem pz_behindTold (y : (Int → Int) × (Nat → Nat) × (Nat → Nat) × (Nat → Nat) × (Nat → Nat) × ZS × TbT × MfT × Nat × Nat × GzA) : PbC KX2_behindTold [(39, TrP, EqC 39), (222, TrP, EqC 222)] [(39, Uz_behindExp), (222, Uz_bitq)] (fun As σ => Pz_behindTold y As σ ∧ cnC σ ≤ 1000000 ∧ ∃ w τ, uqC quL 33 As σ w τ) (Qz_behindTold y) := by
  obtain ⟨N, E, A, B, V, z, T, ms, nm, j, g⟩ := y
  rintro As σ ⟨⟨p1, p2, rfl, hSs, hPf, hTg, hwf, hj, hp, hG⟩, hcn, _, _, hQ⟩ K hB hW n_
  obtain ⟨hwf, hup, hBi, hsx⟩ := hwf
  have op : SlC A B σ z j p1 ∧ p1 < cnC σ := by rw [hp]; exact hSs.1 j hj
  change K n_ 0 [(0, .inr (.inr (some (E 4)))), (1, .inr (.inr (some p1))), (2, .inr (.inl p2))] [] σ
  refine hB _ _ _ _ _ (fun m51 hm51 => ?_)
  dsimp only [ucgo, ucwp, ucsC, uqC, uoC, ctC, rfd, KX2_behindTold, KX2_behindTold_0, KX2_behindTold_7, KX2_behindTold_17, KX2_behindTold_18, KX2_behindTold_27, KX2_behindTold_36, lkC, s1C, s2C, dlC, kyC, Nat.beq, Nat.ble, rcd, rno, rsw, Nat.reduceAdd, Nat.reduceBEq, Nat.reduceDiv, List.drop, List.take, List.reverse, List.reverseAux, Int.toNat, Option.toList, List.append, List.cons_append, List.nil_append, zg279, zg280]
  intro a52 e52 ob52
  cases e52
  have f53 : (fIC σ p1 280).toInt = ljS z j := op.1.2.2.2.2.2.2
  refine ⟨fun h54 => ?_, fun h54 => ?_⟩
  · have g54 := ltI (x := (fIC σ p1 280)) (y := 0) h54
    have z0_ : (0 : Int32).toInt = 0 := rfl
    refine hB _ _ _ _ _ (fun m55 hm55 => ?_)
    dsimp only [ucgo, ucwp, ucsC, uqC, uoC, ctC, rfd, KX2_behindTold, KX2_behindTold_0, KX2_behindTold_7, KX2_behindTold_17, KX2_behindTold_18, KX2_behindTold_27, KX2_behindTold_36, lkC, s1C, s2C, dlC, kyC, Nat.beq, Nat.ble, rcd, rno, rsw, Nat.reduceAdd, Nat.reduceBEq, Nat.reduceDiv, List.drop, List.take, List.reverse, List.reverseAux, Int.toNat, Option.toList, List.append, List.cons_append, List.nil_append, zg279, zg280]
    refine hB _ _ _ _ _ (fun m56 hm56 => ?_)
    dsimp only [ucgo, ucwp, ucsC, uqC, uoC, ctC, rfd, KX2_behindTold, KX2_behindTold_0, KX2_behindTold_7, KX2_behindTold_17, KX2_behindTold_18, KX2_behindTold_27, KX2_behindTold_36, lkC, s1C, s2C, dlC, kyC, Nat.beq, Nat.ble, rcd, rno, rsw, Nat.reduceAdd, Nat.reduceBEq, Nat.reduceDiv, List.drop, List.take, List.reverse, List.reverseAux, Int.toNat, Option.toList, List.append, List.cons_append, List.nil_append, zg279, zg280]
    intro a57 e57 ob57
    cases e57
    have f58 : (fRC σ p1 279) = opA A (xjS z j) := op.1.2.2.2.2.2.1
    refine ⟨fun b59 h59 => ?_, fun h59 => ?_⟩
    · obtain ⟨kx, hkx, -⟩ := opA_j (f58.symm.trans h59)
      refine hB _ _ _ _ _ (fun m60 hm60 => ?_)
      dsimp only [ucgo, ucwp, ucsC, uqC, uoC, ctC, rfd, KX2_behindTold, KX2_behindTold_0, KX2_behindTold_7, KX2_behindTold_17, KX2_behindTold_18, KX2_behindTold_27, KX2_behindTold_36, lkC, s1C, s2C, dlC, kyC, Nat.beq, Nat.ble, rcd, rno, rsw, Nat.reduceAdd, Nat.reduceBEq, Nat.reduceDiv, List.drop, List.take, List.reverse, List.reverseAux, Int.toNat, Option.toList, List.append, List.cons_append, List.nil_append, zg279, zg280]
      intro a61 e61 ob61
      cases e61
      have f62 : (fRC σ p1 279) = opA A (xjS z j) := op.1.2.2.2.2.2.1
      intro w63 τ63 o63 q63
      obtain ⟨v63, rfl, hv63, hWh63⟩ := q63 (N, E, A, B, V, z, T, ms, nm, g.2.2.2.2, xjS z j) ⟨_, _, rfl, hSs, hPf, hG.2, f62, (by have := (hwf j hj).2.1; omega), hsx⟩
      have hG63 := AzC.w hG o63.2 (fun j9 h9 => (hSs.1 j9 h9).2) hWh63
      have hv63 : v63 = (exB z T (xjS z j) (p2 &&& ((Int64.ofNat ((0 : Fin 2) : Nat)) ^^^ (Int64.ofInt (-1)))) g).1 := hv63
      have hG63 : AzC E B τ63 z (exB z T (xjS z j) (p2 &&& ((Int64.ofNat ((0 : Fin 2) : Nat)) ^^^ (Int64.ofInt (-1)))) g).2 := hG63
      have hF63 : FrE [91, 92, 94, 217, 218, 285, 286, 287, 288, 901] σ τ63 := FrE.mo o63.2 rfl
      have hSs_63 := SsC.fr hSs hF63 rfl
      have hPf_63 := PfC.fr hPf hF63 rfl
      have hTg_63 := TgC.fr hTg hF63 rfl
      have op_63 : SlC A B τ63 z j p1 ∧ p1 < cnC τ63 := by rw [hp]; exact hSs_63.1 j hj
      obtain ⟨Q63, hQ63⟩ : ∃ q, exB z T (xjS z j) (p2 &&& ((Int64.ofNat ((0 : Fin 2) : Nat)) ^^^ (Int64.ofInt (-1)))) g = q := ⟨_, rfl⟩
      rw [hQ63] at hv63 hG63
      try dsimp only [Option.toList, List.cons_append, List.nil_append, s1C, s2C, dlC, kyC, Nat.beq, lkC, rcd, rno, rsw]
      try dsimp only [Qz_behindTold]
      have hlk : lkBz z j = zerB := if_pos (by omega)
      have hfin : tdA z T j p2 g = ((Q63.1 ||| (Int64.ofNat ((0 : Fin 2) : Nat))), Q63.2) := by
        unfold tdA
        rw [if_neg (by omega), hlk]
        unfold allB
        unfold zerB
        rw [hQ63]
      rw [hfin]
      exact ⟨_, rfl, by simp only [hv63], hG63⟩
    · have hxn := opA_nn (f58.symm.trans h59)
      refine hB _ _ _ _ _ (fun m64 hm64 => ?_)
      dsimp only [ucgo, ucwp, ucsC, uqC, uoC, ctC, rfd, KX2_behindTold, KX2_behindTold_0, KX2_behindTold_7, KX2_behindTold_17, KX2_behindTold_18, KX2_behindTold_27, KX2_behindTold_36, lkC, s1C, s2C, dlC, kyC, Nat.beq, Nat.ble, rcd, rno, rsw, Nat.reduceAdd, Nat.reduceBEq, Nat.reduceDiv, List.drop, List.take, List.reverse, List.reverseAux, Int.toNat, Option.toList, List.append, List.cons_append, List.nil_append, zg279, zg280]
      try dsimp only [Qz_behindTold]
      have hlk : lkBz z j = zerB := if_pos (by omega)
      have hfin : tdA z T j p2 g = ((p2 &&& ((Int64.ofNat ((0 : Fin 2) : Nat)) ^^^ (Int64.ofInt (-1)))), g) := by
        unfold tdA
        rw [if_pos (by omega), hlk]
        rfl
      rw [hfin]
      exact ⟨_, rfl, rfl, hG⟩
  · have g54 := nltI (x := (fIC σ p1 280)) (y := 0) h54
    have z0_ : (0 : Int32).toInt = 0 := rfl
    refine hB _ _ _ _ _ (fun m65 hm65 => ?_)
    dsimp only [ucgo, ucwp, ucsC, uqC, uoC, ctC, rfd, KX2_behindTold, KX2_behindTold_0, KX2_behindTold_7, KX2_behindTold_17, KX2_behindTold_18, KX2_behindTold_27, KX2_behindTold_36, lkC, s1C, s2C, dlC, kyC, Nat.beq, Nat.ble, rcd, rno, rsw, Nat.reduceAdd, Nat.reduceBEq, Nat.reduceDiv, List.drop, List.take, List.reverse, List.reverseAux, Int.toNat, Option.toList, List.append, List.cons_append, List.nil_append, zg279, zg280]
    intro a66 e66 ob66
    cases e66
    have f67 : (fIC σ p1 280).toInt = ljS z j := op.1.2.2.2.2.2.2
    intro w68 τ68 o68 q68
    obtain ⟨r68, rfl, hr68, rfl⟩ := q68 (N, E, A, B, V, z) ⟨_, rfl⟩
    rw [show ((fIC σ p1 280) : Int32).toInt = ljS z j by omega] at hr68
    try dsimp only [Option.toList, List.cons_append, List.nil_append, s1C, s2C, dlC, kyC, Nat.beq, lkC, rcd, rno, rsw]
    refine hB _ _ _ _ _ (fun m69 hm69 => ?_)
    dsimp only [ucgo, ucwp, ucsC, uqC, uoC, ctC, rfd, KX2_behindTold, KX2_behindTold_0, KX2_behindTold_7, KX2_behindTold_17, KX2_behindTold_18, KX2_behindTold_27, KX2_behindTold_36, lkC, s1C, s2C, dlC, kyC, Nat.beq, Nat.ble, rcd, rno, rsw, Nat.reduceAdd, Nat.reduceBEq, Nat.reduceDiv, List.drop, List.take, List.reverse, List.reverseAux, Int.toNat, Option.toList, List.append, List.cons_append, List.nil_append, zg279, zg280]
    intro a70 e70 ob70
    cases e70
    have f71 : (fRC σ p1 279) = opA A (xjS z j) := op.1.2.2.2.2.2.1
    refine ⟨fun b72 h72 => ?_, fun h72 => ?_⟩
    · obtain ⟨kx, hkx, -⟩ := opA_j (f71.symm.trans h72)
      refine hB _ _ _ _ _ (fun m73 hm73 => ?_)
      dsimp only [ucgo, ucwp, ucsC, uqC, uoC, ctC, rfd, KX2_behindTold, KX2_behindTold_0, KX2_behindTold_7, KX2_behindTold_17, KX2_behindTold_18, KX2_behindTold_27, KX2_behindTold_36, lkC, s1C, s2C, dlC, kyC, Nat.beq, Nat.ble, rcd, rno, rsw, Nat.reduceAdd, Nat.reduceBEq, Nat.reduceDiv, List.drop, List.take, List.reverse, List.reverseAux, Int.toNat, Option.toList, List.append, List.cons_append, List.nil_append, zg279, zg280]
      intro a74 e74 ob74
      cases e74
      have f75 : (fRC σ p1 279) = opA A (xjS z j) := op.1.2.2.2.2.2.1
      intro w76 τ76 o76 q76
      obtain ⟨v76, rfl, hv76, hWh76⟩ := q76 (N, E, A, B, V, z, T, ms, nm, g.2.2.2.2, xjS z j) ⟨_, _, rfl, hSs, hPf, hG.2, f75, (by have := (hwf j hj).2.1; omega), hsx⟩
      rw [show (p2 &&& (r68 ^^^ (Int64.ofInt (-1)))) = (p2 &&& (bitQ (ljS z j) ^^^ (Int64.ofInt (-1)))) by simp only [hr68]] at hv76 hWh76
      have hG76 := AzC.w hG o76.2 (fun j9 h9 => (hSs.1 j9 h9).2) hWh76
      have hv76 : v76 = (exB z T (xjS z j) (p2 &&& (bitQ (ljS z j) ^^^ (Int64.ofInt (-1)))) g).1 := hv76
      have hG76 : AzC E B τ76 z (exB z T (xjS z j) (p2 &&& (bitQ (ljS z j) ^^^ (Int64.ofInt (-1)))) g).2 := hG76
      have hF76 : FrE [91, 92, 94, 217, 218, 285, 286, 287, 288, 901] σ τ76 := FrE.mo o76.2 rfl
      have hSs_76 := SsC.fr hSs hF76 rfl
      have hPf_76 := PfC.fr hPf hF76 rfl
      have hTg_76 := TgC.fr hTg hF76 rfl
      have op_76 : SlC A B τ76 z j p1 ∧ p1 < cnC τ76 := by rw [hp]; exact hSs_76.1 j hj
      obtain ⟨Q76, hQ76⟩ : ∃ q, exB z T (xjS z j) (p2 &&& (bitQ (ljS z j) ^^^ (Int64.ofInt (-1)))) g = q := ⟨_, rfl⟩
      rw [hQ76] at hv76 hG76
      try dsimp only [Option.toList, List.cons_append, List.nil_append, s1C, s2C, dlC, kyC, Nat.beq, lkC, rcd, rno, rsw]
      try dsimp only [Qz_behindTold]
      have hlk : lkBz z j = bitQ (ljS z j) := if_neg (by omega)
      have hfin : tdA z T j p2 g = ((Q76.1 ||| bitQ (ljS z j)), Q76.2) := by
        unfold tdA
        rw [if_neg (by omega), hlk]
        unfold allB
        rw [hQ76]
      rw [hfin]
      exact ⟨_, rfl, by simp only [hr68, hv76], hG76⟩
    · have hxn := opA_nn (f71.symm.trans h72)
      refine hB _ _ _ _ _ (fun m77 hm77 => ?_)
      dsimp only [ucgo, ucwp, ucsC, uqC, uoC, ctC, rfd, KX2_behindTold, KX2_behindTold_0, KX2_behindTold_7, KX2_behindTold_17, KX2_behindTold_18, KX2_behindTold_27, KX2_behindTold_36, lkC, s1C, s2C, dlC, kyC, Nat.beq, Nat.ble, rcd, rno, rsw, Nat.reduceAdd, Nat.reduceBEq, Nat.reduceDiv, List.drop, List.take, List.reverse, List.reverseAux, Int.toNat, Option.toList, List.append, List.cons_append, List.nil_append, zg279, zg280]
      try dsimp only [Qz_behindTold]
      have hlk : lkBz z j = bitQ (ljS z j) := if_neg (by omega)
      have hfin : tdA z T j p2 g = ((p2 &&& (bitQ (ljS z j) ^^^ (Int64.ofInt (-1)))), g) := by
        unfold tdA
        rw [if_pos (by omega), hlk]
        rfl
      rw [hfin]
      exact ⟨_, rfl, by simp only [hr68], hG⟩
theorem wz_behindTold : ∀ (L : Nat) (As : List AvC) (σ : CsC) (w : Option AvC) (τ : CsC), EvF L 33 As σ w τ → Uz_behindTold As σ w τ := by
  intro L
  cases L with
  | zero => exact fun _ _ _ _ h => h.elim
  | succ L => exact fun As σ w τ h y hy => EvF.us (cs := [39, 222]) (pz_behindTold y) rfl (List.forall_mem_cons.2 ⟨wz_behindExp L, List.forall_mem_cons.2 ⟨wz_bitq L, fun _ h => absurd h List.not_mem_nil⟩⟩) h hy
abbrev Pz_leadTo : ((Int → Int) × (Nat → Nat) × (Nat → Nat) × (Nat → Nat) × (Nat → Nat) × ZS × TbT × MfT × Nat × Nat × GzA) → CpC := fun y As σ => match y with
  | (N, E, A, B, V, z, T, ms, nm, j, g) => ∃ (p1 : Nat) (p2 : Int64), As = [.inr (.inr (some (E 4))), .inr (.inr (some p1)), .inr (.inl p2)] ∧ (SsC E A B σ z T ms nm) ∧ (PfC E σ) ∧ (TgC N B σ z) ∧ (WfS z T ∧ UpS z ∧ BiC B z ∧ SxS z) ∧ (j < snM z) ∧ (p1 = B j) ∧ (AzC E B σ z g) ∧ (kjS z j = 64 ∨ kjS z j = 65)
abbrev Qz_leadTo : ((Int → Int) × (Nat → Nat) × (Nat → Nat) × (Nat → Nat) × (Nat → Nat) × ZS × TbT × MfT × Nat × Nat × GzA) → CqC := fun y As σ w τ => match y, As with
  | (N, E, A, B, V, z, T, ms, nm, j, g), [_, .inr (.inr (some p1)), .inr (.inl p2)] => w = none ∧ AzC E B τ z (ldT N z j p2 g)
  | _, _ => True
abbrev Uz_leadTo : CqC := fun As σ w τ => ∀ y, Pz_leadTo y As σ → Qz_leadTo y As σ w τ
set_option maxHeartbeats 4000000 in
theorem pz_leadTo (y : (Int → Int) × (Nat → Nat) × (Nat → Nat) × (Nat → Nat) × (Nat → Nat) × ZS × TbT × MfT × Nat × Nat × GzA) : PbC KX2_leadTo [(181, TrP, EqC 181)] [(181, Uz_hasFinallyAhead)] (fun As σ => Pz_leadTo y As σ ∧ cnC σ ≤ 1000000 ∧ ∃ w τ, uqC quL 34 As σ w τ) (Qz_leadTo y) := by
  obtain ⟨N, E, A, B, V, z, T, ms, nm, j, g⟩ := y
  rintro As σ ⟨⟨p1, p2, rfl, hSs, hPf, hTg, hwf, hj, hp, hG, hk⟩, hcn, _, _, hQ⟩ K hB hW n_
  obtain ⟨hwf, hup, hBi, hsx⟩ := hwf
  have op : SlC A B σ z j p1 ∧ p1 < cnC σ := by rw [hp]; exact hSs.1 j hj
  have L6 : ∀ (n : Nat) (e9 : Option Nat) (x9 : Int) (fu : Nat) (m9 : Int64), (x9 < (fu : Int) ∧ fu ≤ snM z) → (e9 = opA B x9) → (ltM z g.2.1 (tjT N z j) (snM z) (j : Int) p2 = ltM z g.2.1 (tjT N z j) fu x9 m9) →  K n 6 [(0, .inr (.inr (some (E 4)))), (1, .inr (.inr (some p1))), (2, .inr (.inl p2)), (4, .inr (.inl m9)), (6, .inr (.inr e9))] [] σ := by
    intro n
    induction n using Nat.strongRecOn with
    | _ n ih =>
      intro e9 x9 fu m9 h1 he9 heq
      refine hB _ _ _ _ _ (fun m51 hm51 => ?_)
      dsimp only [ucgo, ucwp, ucsC, uqC, uoC, ctC, rfd, KX2_leadTo, KX2_leadTo_0, KX2_leadTo_6, KX2_leadTo_11, KX2_leadTo_20, KX2_leadTo_28, KX2_leadTo_44, KX2_leadTo_54, KX2_leadTo_61, KX2_leadTo_70, KX2_leadTo_87, KX2_leadTo_94, KX2_leadTo_108, lkC, s1C, s2C, dlC, kyC, Nat.beq, Nat.ble, rcd, rno, rsw, Nat.reduceAdd, Nat.reduceBEq, Nat.reduceDiv, List.drop, List.take, List.reverse, List.reverseAux, Int.toNat, Option.toList, List.append, List.cons_append, List.nil_append, zg270, zg273, zg278, zg281, zg286, zg287, zg288]
      refine ⟨fun h52 => ?_, fun b52 h52 => ?_⟩
      · have hx52 := opA_nn (he9.symm.trans h52)
        refine hB _ _ _ _ _ (fun m53 hm53 => ?_)
        dsimp only [ucgo, ucwp, ucsC, uqC, uoC, ctC, rfd, KX2_leadTo, KX2_leadTo_0, KX2_leadTo_6, KX2_leadTo_11, KX2_leadTo_20, KX2_leadTo_28, KX2_leadTo_44, KX2_leadTo_54, KX2_leadTo_61, KX2_leadTo_70, KX2_leadTo_87, KX2_leadTo_94, KX2_leadTo_108, lkC, s1C, s2C, dlC, kyC, Nat.beq, Nat.ble, rcd, rno, rsw, Nat.reduceAdd, Nat.reduceBEq, Nat.reduceDiv, List.drop, List.take, List.reverse, List.reverseAux, Int.toNat, Option.toList, List.append, List.cons_append, List.nil_append, zg270, zg273, zg278, zg281, zg286, zg287, zg288]
        intro a54 e54 ob54
        cases e54
        have f55 : (fRC σ p1 281) = opA B (tjT N z j) := by rw [hp]; exact (hTg j hj hk).1
        refine ⟨fun h56 => ?_, fun b56 h56 => ?_⟩
        · have hx56 := opA_nn (f55.symm.trans h56)
          refine hB _ _ _ _ _ (fun m57 hm57 => ?_)
          dsimp only [ucgo, ucwp, ucsC, uqC, uoC, ctC, rfd, KX2_leadTo, KX2_leadTo_0, KX2_leadTo_6, KX2_leadTo_11, KX2_leadTo_20, KX2_leadTo_28, KX2_leadTo_44, KX2_leadTo_54, KX2_leadTo_61, KX2_leadTo_70, KX2_leadTo_87, KX2_leadTo_94, KX2_leadTo_108, lkC, s1C, s2C, dlC, kyC, Nat.beq, Nat.ble, rcd, rno, rsw, Nat.reduceAdd, Nat.reduceBEq, Nat.reduceDiv, List.drop, List.take, List.reverse, List.reverseAux, Int.toNat, Option.toList, List.append, List.cons_append, List.nil_append, zg270, zg273, zg278, zg281, zg286, zg287, zg288]
          intro a58 e58 ob58
          cases e58
          have f59 : (fRC σ p1 281) = opA B (tjT N z j) := by rw [hp]; exact (hTg j hj hk).1
          refine ⟨fun h60 => ?_, fun b60 h60 => ?_⟩
          · have hx60 := opA_nn (f59.symm.trans h60)
            refine hB _ _ _ _ _ (fun m61 hm61 => ?_)
            dsimp only [ucgo, ucwp, ucsC, uqC, uoC, ctC, rfd, KX2_leadTo, KX2_leadTo_0, KX2_leadTo_6, KX2_leadTo_11, KX2_leadTo_20, KX2_leadTo_28, KX2_leadTo_44, KX2_leadTo_54, KX2_leadTo_61, KX2_leadTo_70, KX2_leadTo_87, KX2_leadTo_94, KX2_leadTo_108, lkC, s1C, s2C, dlC, kyC, Nat.beq, Nat.ble, rcd, rno, rsw, Nat.reduceAdd, Nat.reduceBEq, Nat.reduceDiv, List.drop, List.take, List.reverse, List.reverseAux, Int.toNat, Option.toList, List.append, List.cons_append, List.nil_append, zg270, zg273, zg278, zg281, zg286, zg287, zg288]
            try dsimp only [Qz_leadTo]
            exact fun τ9 h9 => ⟨rfl, by unfold ldT; rw [if_pos (by omega)]; exact hG.we h9⟩
          · have htl60 := (hTg j hj hk).2.2
            obtain ⟨j60, hj60, hb60⟩ := opA_j (f59.symm.trans h60)
            have hl60 : j60 < snM z := by omega
            have o62 := hSs.1 j60 hl60
            exfalso
            omega
        · have htl56 := (hTg j hj hk).2.2
          obtain ⟨j56, hj56, hb56⟩ := opA_j (f55.symm.trans h56)
          have hl56 : j56 < snM z := by omega
          have o63 := hSs.1 j56 hl56
          refine hB _ _ _ _ _ (fun m64 hm64 => ?_)
          dsimp only [ucgo, ucwp, ucsC, uqC, uoC, ctC, rfd, KX2_leadTo, KX2_leadTo_0, KX2_leadTo_6, KX2_leadTo_11, KX2_leadTo_20, KX2_leadTo_28, KX2_leadTo_44, KX2_leadTo_54, KX2_leadTo_61, KX2_leadTo_70, KX2_leadTo_87, KX2_leadTo_94, KX2_leadTo_108, lkC, s1C, s2C, dlC, kyC, Nat.beq, Nat.ble, rcd, rno, rsw, Nat.reduceAdd, Nat.reduceBEq, Nat.reduceDiv, List.drop, List.take, List.reverse, List.reverseAux, Int.toNat, Option.toList, List.append, List.cons_append, List.nil_append, zg270, zg273, zg278, zg281, zg286, zg287, zg288]
          intro a65 e65 ob65
          cases e65
          have f66 : (fIC σ p1 270).toInt = kjS z j := op.1.1.1
          have c67 : (Int32.ofInt 64).toInt = 64 := by decide
          refine ⟨fun h68 => ?_, fun h68 => ?_⟩
          · have g68 := (neI (x := (fIC σ p1 270)) (y := (Int32.ofInt 64)) h68 : ¬ ((fIC σ p1 270) : Int32).toInt = ((Int32.ofInt 64) : Int32).toInt)
            refine hB _ _ _ _ _ (fun m69 hm69 => ?_)
            dsimp only [ucgo, ucwp, ucsC, uqC, uoC, ctC, rfd, KX2_leadTo, KX2_leadTo_0, KX2_leadTo_6, KX2_leadTo_11, KX2_leadTo_20, KX2_leadTo_28, KX2_leadTo_44, KX2_leadTo_54, KX2_leadTo_61, KX2_leadTo_70, KX2_leadTo_87, KX2_leadTo_94, KX2_leadTo_108, lkC, s1C, s2C, dlC, kyC, Nat.beq, Nat.ble, rcd, rno, rsw, Nat.reduceAdd, Nat.reduceBEq, Nat.reduceDiv, List.drop, List.take, List.reverse, List.reverseAux, Int.toNat, Option.toList, List.append, List.cons_append, List.nil_append, zg270, zg273, zg278, zg281, zg286, zg287, zg288]
            intro a70 e70 ob70
            cases e70
            have f71 : (fRC σ p1 281) = opA B (tjT N z j) := by rw [hp]; exact (hTg j hj hk).1
            refine ⟨fun h72 => ?_, fun b72 h72 => ?_⟩
            · have hx72 := opA_nn (f71.symm.trans h72)
              exfalso
              omega
            · have htl72 := (hTg j hj hk).2.2
              obtain ⟨j72, hj72, hb72⟩ := opA_j (f71.symm.trans h72)
              have hl72 : j72 < snM z := by omega
              have o73 := hSs.1 j72 hl72
              refine hB _ _ _ _ _ (fun m74 hm74 => ?_)
              dsimp only [ucgo, ucwp, ucsC, uqC, uoC, ctC, rfd, KX2_leadTo, KX2_leadTo_0, KX2_leadTo_6, KX2_leadTo_11, KX2_leadTo_20, KX2_leadTo_28, KX2_leadTo_44, KX2_leadTo_54, KX2_leadTo_61, KX2_leadTo_70, KX2_leadTo_87, KX2_leadTo_94, KX2_leadTo_108, lkC, s1C, s2C, dlC, kyC, Nat.beq, Nat.ble, rcd, rno, rsw, Nat.reduceAdd, Nat.reduceBEq, Nat.reduceDiv, List.drop, List.take, List.reverse, List.reverseAux, Int.toNat, Option.toList, List.append, List.cons_append, List.nil_append, zg270, zg273, zg278, zg281, zg286, zg287, zg288]
              intro a75 e75 ob75
              cases e75
              have f76 : (fRC σ p1 281) = opA B (tjT N z j) := by rw [hp]; exact (hTg j hj hk).1
              intro a77 e77 ob77
              have htl77 := (hTg j hj hk).2.2
              obtain ⟨j77, hj77, hb77⟩ := opA_j (f76.symm.trans e77)
              have hl77 : j77 < snM z := by omega
              have o78 := hSs.1 j77 hl77
              subst hb77
              have f79 : (fLC σ (B j77) 288) = g.2.2.2.1 j77 := (hG.1 j77 hl77).2.2.2
              intro a80 e80 ob80 fk80
              have htl80 := (hTg j hj hk).2.2
              obtain ⟨j80, hj80, hb80⟩ := opA_j (f76.symm.trans e80)
              have hl80 : j80 < snM z := by omega
              have o81 := hSs.1 j80 hl80
              subst hb80
              clear fk80 ob80
              generalize hs80 : pLC σ (B j80) 288 ((fLC σ (B j77) 288) &&& m9) = s80
              rw [show j77 = j80 by omega] at hs80
              have f79x := f79
              rw [show j77 = j80 by omega] at f79x
              rw [show ((fLC σ (B j80) 288) &&& m9) = ((g.2.2.2.1 j80) &&& m9) by simp only [f79x]] at hs80
              have hG80 := AzC.c hG hBi hl80 hs80
              have hF80 : FrE [91, 92, 94, 217, 218, 285, 286, 287, 288, 901] σ s80 := FrE.pL2 FrE.rf (by decide) hs80
              have hSs_80 := SsC.fr hSs hF80 rfl
              have hPf_80 := PfC.fr hPf hF80 rfl
              have hTg_80 := TgC.fr hTg hF80 rfl
              have op_80 : SlC A B s80 z j p1 ∧ p1 < cnC s80 := by rw [hp]; exact hSs_80.1 j hj
              have o63_80 := hSs_80.1 j56 hl56
              have o73_80 := hSs_80.1 j72 hl72
              have o78_80 := hSs_80.1 j77 hl77
              have o81_80 := hSs_80.1 j80 hl80
              refine hB _ _ _ _ _ (fun m82 hm82 => ?_)
              dsimp only [ucgo, ucwp, ucsC, uqC, uoC, ctC, rfd, KX2_leadTo, KX2_leadTo_0, KX2_leadTo_6, KX2_leadTo_11, KX2_leadTo_20, KX2_leadTo_28, KX2_leadTo_44, KX2_leadTo_54, KX2_leadTo_61, KX2_leadTo_70, KX2_leadTo_87, KX2_leadTo_94, KX2_leadTo_108, lkC, s1C, s2C, dlC, kyC, Nat.beq, Nat.ble, rcd, rno, rsw, Nat.reduceAdd, Nat.reduceBEq, Nat.reduceDiv, List.drop, List.take, List.reverse, List.reverseAux, Int.toNat, Option.toList, List.append, List.cons_append, List.nil_append, zg270, zg273, zg278, zg281, zg286, zg287, zg288]
              try dsimp only [Qz_leadTo]
              exact fun τ9 h9 => ⟨rfl, by unfold ldT; rw [if_neg (by omega), if_neg (by omega), show (tjT N z j).toNat = j80 by omega, heq.trans (ltx_neg hx52)]; exact hG80.we h9⟩
          · have g68 := (eqI (x := (fIC σ p1 270)) (y := (Int32.ofInt 64)) h68 : ((fIC σ p1 270) : Int32).toInt = ((Int32.ofInt 64) : Int32).toInt)
            refine hB _ _ _ _ _ (fun m83 hm83 => ?_)
            dsimp only [ucgo, ucwp, ucsC, uqC, uoC, ctC, rfd, KX2_leadTo, KX2_leadTo_0, KX2_leadTo_6, KX2_leadTo_11, KX2_leadTo_20, KX2_leadTo_28, KX2_leadTo_44, KX2_leadTo_54, KX2_leadTo_61, KX2_leadTo_70, KX2_leadTo_87, KX2_leadTo_94, KX2_leadTo_108, lkC, s1C, s2C, dlC, kyC, Nat.beq, Nat.ble, rcd, rno, rsw, Nat.reduceAdd, Nat.reduceBEq, Nat.reduceDiv, List.drop, List.take, List.reverse, List.reverseAux, Int.toNat, Option.toList, List.append, List.cons_append, List.nil_append, zg270, zg273, zg278, zg281, zg286, zg287, zg288]
            intro a84 e84 ob84
            cases e84
            have f85 : (fRC σ p1 281) = opA B (tjT N z j) := by rw [hp]; exact (hTg j hj hk).1
            intro a86 e86 ob86
            have htl86 := (hTg j hj hk).2.2
            obtain ⟨j86, hj86, hb86⟩ := opA_j (f85.symm.trans e86)
            have hl86 : j86 < snM z := by omega
            have o87 := hSs.1 j86 hl86
            subst hb86
            have f88 : (fLC σ (B j86) 287) = g.2.2.1 j86 := (hG.1 j86 hl86).2.2.1
            intro a89 e89 ob89 fk89
            have htl89 := (hTg j hj hk).2.2
            obtain ⟨j89, hj89, hb89⟩ := opA_j (f85.symm.trans e89)
            have hl89 : j89 < snM z := by omega
            have o90 := hSs.1 j89 hl89
            subst hb89
            clear fk89 ob89
            generalize hs89 : pLC σ (B j89) 287 ((fLC σ (B j86) 287) &&& m9) = s89
            rw [show j86 = j89 by omega] at hs89
            have f88x := f88
            rw [show j86 = j89 by omega] at f88x
            rw [show ((fLC σ (B j89) 287) &&& m9) = ((g.2.2.1 j89) &&& m9) by simp only [f88x]] at hs89
            have hG89 := AzC.k hG hBi hl89 hs89
            have hF89 : FrE [91, 92, 94, 217, 218, 285, 286, 287, 288, 901] σ s89 := FrE.pL2 FrE.rf (by decide) hs89
            have hSs_89 := SsC.fr hSs hF89 rfl
            have hPf_89 := PfC.fr hPf hF89 rfl
            have hTg_89 := TgC.fr hTg hF89 rfl
            have op_89 : SlC A B s89 z j p1 ∧ p1 < cnC s89 := by rw [hp]; exact hSs_89.1 j hj
            have o63_89 := hSs_89.1 j56 hl56
            have o87_89 := hSs_89.1 j86 hl86
            have o90_89 := hSs_89.1 j89 hl89
            refine hB _ _ _ _ _ (fun m91 hm91 => ?_)
            dsimp only [ucgo, ucwp, ucsC, uqC, uoC, ctC, rfd, KX2_leadTo, KX2_leadTo_0, KX2_leadTo_6, KX2_leadTo_11, KX2_leadTo_20, KX2_leadTo_28, KX2_leadTo_44, KX2_leadTo_54, KX2_leadTo_61, KX2_leadTo_70, KX2_leadTo_87, KX2_leadTo_94, KX2_leadTo_108, lkC, s1C, s2C, dlC, kyC, Nat.beq, Nat.ble, rcd, rno, rsw, Nat.reduceAdd, Nat.reduceBEq, Nat.reduceDiv, List.drop, List.take, List.reverse, List.reverseAux, Int.toNat, Option.toList, List.append, List.cons_append, List.nil_append, zg270, zg273, zg278, zg281, zg286, zg287, zg288]
            try dsimp only [Qz_leadTo]
            exact fun τ9 h9 => ⟨rfl, by unfold ldT; rw [if_neg (by omega), if_pos (by omega), show (tjT N z j).toNat = j89 by omega, heq.trans (ltx_neg hx52)]; exact hG89.we h9⟩
      · obtain ⟨j52, hj52, hb52⟩ := opA_j (he9.symm.trans h52)
        have hl52 : j52 < snM z := by omega
        have o92 := hSs.1 j52 hl52
        obtain ⟨k9, rfl⟩ : ∃ k9, fu = k9 + 1 := ⟨fu - 1, by omega⟩
        rw [hj52] at h1 heq
        refine hB _ _ _ _ _ (fun m93 hm93 => ?_)
        dsimp only [ucgo, ucwp, ucsC, uqC, uoC, ctC, rfd, KX2_leadTo, KX2_leadTo_0, KX2_leadTo_6, KX2_leadTo_11, KX2_leadTo_20, KX2_leadTo_28, KX2_leadTo_44, KX2_leadTo_54, KX2_leadTo_61, KX2_leadTo_70, KX2_leadTo_87, KX2_leadTo_94, KX2_leadTo_108, lkC, s1C, s2C, dlC, kyC, Nat.beq, Nat.ble, rcd, rno, rsw, Nat.reduceAdd, Nat.reduceBEq, Nat.reduceDiv, List.drop, List.take, List.reverse, List.reverseAux, Int.toNat, Option.toList, List.append, List.cons_append, List.nil_append, zg270, zg273, zg278, zg281, zg286, zg287, zg288]
        intro a94 e94 ob94
        cases e94
        have f95 : (fRC σ p1 281) = opA B (tjT N z j) := by rw [hp]; exact (hTg j hj hk).1
        refine ⟨fun h96 => ?_, fun h96 => ?_⟩
        · obtain ⟨jg, hjg, hbg⟩ := opA_j (f95.symm.trans (h96.symm.trans (h52.trans (congrArg some hb52))))
          have hjj : j52 = jg := hBi _ _ (by omega) (by have := (hTg j hj hk).2.2; omega) hbg
          refine hB _ _ _ _ _ (fun m97 hm97 => ?_)
          dsimp only [ucgo, ucwp, ucsC, uqC, uoC, ctC, rfd, KX2_leadTo, KX2_leadTo_0, KX2_leadTo_6, KX2_leadTo_11, KX2_leadTo_20, KX2_leadTo_28, KX2_leadTo_44, KX2_leadTo_54, KX2_leadTo_61, KX2_leadTo_70, KX2_leadTo_87, KX2_leadTo_94, KX2_leadTo_108, lkC, s1C, s2C, dlC, kyC, Nat.beq, Nat.ble, rcd, rno, rsw, Nat.reduceAdd, Nat.reduceBEq, Nat.reduceDiv, List.drop, List.take, List.reverse, List.reverseAux, Int.toNat, Option.toList, List.append, List.cons_append, List.nil_append, zg270, zg273, zg278, zg281, zg286, zg287, zg288]
          intro a98 e98 ob98
          cases e98
          have f99 : (fRC σ p1 281) = opA B (tjT N z j) := by rw [hp]; exact (hTg j hj hk).1
          refine ⟨fun h100 => ?_, fun b100 h100 => ?_⟩
          · have hx100 := opA_nn (f99.symm.trans h100)
            exfalso
            omega
          · have htl100 := (hTg j hj hk).2.2
            obtain ⟨j100, hj100, hb100⟩ := opA_j (f99.symm.trans h100)
            have hl100 : j100 < snM z := by omega
            have o101 := hSs.1 j100 hl100
            refine hB _ _ _ _ _ (fun m102 hm102 => ?_)
            dsimp only [ucgo, ucwp, ucsC, uqC, uoC, ctC, rfd, KX2_leadTo, KX2_leadTo_0, KX2_leadTo_6, KX2_leadTo_11, KX2_leadTo_20, KX2_leadTo_28, KX2_leadTo_44, KX2_leadTo_54, KX2_leadTo_61, KX2_leadTo_70, KX2_leadTo_87, KX2_leadTo_94, KX2_leadTo_108, lkC, s1C, s2C, dlC, kyC, Nat.beq, Nat.ble, rcd, rno, rsw, Nat.reduceAdd, Nat.reduceBEq, Nat.reduceDiv, List.drop, List.take, List.reverse, List.reverseAux, Int.toNat, Option.toList, List.append, List.cons_append, List.nil_append, zg270, zg273, zg278, zg281, zg286, zg287, zg288]
            intro a103 e103 ob103
            cases e103
            have f104 : (fIC σ p1 270).toInt = kjS z j := op.1.1.1
            have c105 : (Int32.ofInt 64).toInt = 64 := by decide
            refine ⟨fun h106 => ?_, fun h106 => ?_⟩
            · have g106 := (neI (x := (fIC σ p1 270)) (y := (Int32.ofInt 64)) h106 : ¬ ((fIC σ p1 270) : Int32).toInt = ((Int32.ofInt 64) : Int32).toInt)
              refine hB _ _ _ _ _ (fun m107 hm107 => ?_)
              dsimp only [ucgo, ucwp, ucsC, uqC, uoC, ctC, rfd, KX2_leadTo, KX2_leadTo_0, KX2_leadTo_6, KX2_leadTo_11, KX2_leadTo_20, KX2_leadTo_28, KX2_leadTo_44, KX2_leadTo_54, KX2_leadTo_61, KX2_leadTo_70, KX2_leadTo_87, KX2_leadTo_94, KX2_leadTo_108, lkC, s1C, s2C, dlC, kyC, Nat.beq, Nat.ble, rcd, rno, rsw, Nat.reduceAdd, Nat.reduceBEq, Nat.reduceDiv, List.drop, List.take, List.reverse, List.reverseAux, Int.toNat, Option.toList, List.append, List.cons_append, List.nil_append, zg270, zg273, zg278, zg281, zg286, zg287, zg288]
              intro a108 e108 ob108
              cases e108
              have f109 : (fRC σ p1 281) = opA B (tjT N z j) := by rw [hp]; exact (hTg j hj hk).1
              refine ⟨fun h110 => ?_, fun b110 h110 => ?_⟩
              · have hx110 := opA_nn (f109.symm.trans h110)
                exfalso
                omega
              · have htl110 := (hTg j hj hk).2.2
                obtain ⟨j110, hj110, hb110⟩ := opA_j (f109.symm.trans h110)
                have hl110 : j110 < snM z := by omega
                have o111 := hSs.1 j110 hl110
                refine hB _ _ _ _ _ (fun m112 hm112 => ?_)
                dsimp only [ucgo, ucwp, ucsC, uqC, uoC, ctC, rfd, KX2_leadTo, KX2_leadTo_0, KX2_leadTo_6, KX2_leadTo_11, KX2_leadTo_20, KX2_leadTo_28, KX2_leadTo_44, KX2_leadTo_54, KX2_leadTo_61, KX2_leadTo_70, KX2_leadTo_87, KX2_leadTo_94, KX2_leadTo_108, lkC, s1C, s2C, dlC, kyC, Nat.beq, Nat.ble, rcd, rno, rsw, Nat.reduceAdd, Nat.reduceBEq, Nat.reduceDiv, List.drop, List.take, List.reverse, List.reverseAux, Int.toNat, Option.toList, List.append, List.cons_append, List.nil_append, zg270, zg273, zg278, zg281, zg286, zg287, zg288]
                intro a113 e113 ob113
                cases e113
                have f114 : (fRC σ p1 281) = opA B (tjT N z j) := by rw [hp]; exact (hTg j hj hk).1
                intro a115 e115 ob115
                have htl115 := (hTg j hj hk).2.2
                obtain ⟨j115, hj115, hb115⟩ := opA_j (f114.symm.trans e115)
                have hl115 : j115 < snM z := by omega
                have o116 := hSs.1 j115 hl115
                subst hb115
                have f117 : (fLC σ (B j115) 288) = g.2.2.2.1 j115 := (hG.1 j115 hl115).2.2.2
                intro a118 e118 ob118 fk118
                have htl118 := (hTg j hj hk).2.2
                obtain ⟨j118, hj118, hb118⟩ := opA_j (f114.symm.trans e118)
                have hl118 : j118 < snM z := by omega
                have o119 := hSs.1 j118 hl118
                subst hb118
                clear fk118 ob118
                generalize hs118 : pLC σ (B j118) 288 ((fLC σ (B j115) 288) &&& m9) = s118
                rw [show j115 = j118 by omega] at hs118
                have f117x := f117
                rw [show j115 = j118 by omega] at f117x
                rw [show ((fLC σ (B j118) 288) &&& m9) = ((g.2.2.2.1 j118) &&& m9) by simp only [f117x]] at hs118
                have hG118 := AzC.c hG hBi hl118 hs118
                have hF118 : FrE [91, 92, 94, 217, 218, 285, 286, 287, 288, 901] σ s118 := FrE.pL2 FrE.rf (by decide) hs118
                have hSs_118 := SsC.fr hSs hF118 rfl
                have hPf_118 := PfC.fr hPf hF118 rfl
                have hTg_118 := TgC.fr hTg hF118 rfl
                have op_118 : SlC A B s118 z j p1 ∧ p1 < cnC s118 := by rw [hp]; exact hSs_118.1 j hj
                have o92_118 := hSs_118.1 j52 hl52
                have o101_118 := hSs_118.1 j100 hl100
                have o111_118 := hSs_118.1 j110 hl110
                have o116_118 := hSs_118.1 j115 hl115
                have o119_118 := hSs_118.1 j118 hl118
                refine hB _ _ _ _ _ (fun m120 hm120 => ?_)
                dsimp only [ucgo, ucwp, ucsC, uqC, uoC, ctC, rfd, KX2_leadTo, KX2_leadTo_0, KX2_leadTo_6, KX2_leadTo_11, KX2_leadTo_20, KX2_leadTo_28, KX2_leadTo_44, KX2_leadTo_54, KX2_leadTo_61, KX2_leadTo_70, KX2_leadTo_87, KX2_leadTo_94, KX2_leadTo_108, lkC, s1C, s2C, dlC, kyC, Nat.beq, Nat.ble, rcd, rno, rsw, Nat.reduceAdd, Nat.reduceBEq, Nat.reduceDiv, List.drop, List.take, List.reverse, List.reverseAux, Int.toNat, Option.toList, List.append, List.cons_append, List.nil_append, zg270, zg273, zg278, zg281, zg286, zg287, zg288]
                try dsimp only [Qz_leadTo]
                exact fun τ9 h9 => ⟨rfl, by unfold ldT; rw [if_neg (by omega), if_neg (by omega), show (tjT N z j).toNat = j118 by omega, heq.trans (ltx_eq (show (j52 : Int) = tjT N z j by omega))]; exact hG118.we h9⟩
            · have g106 := (eqI (x := (fIC σ p1 270)) (y := (Int32.ofInt 64)) h106 : ((fIC σ p1 270) : Int32).toInt = ((Int32.ofInt 64) : Int32).toInt)
              refine hB _ _ _ _ _ (fun m121 hm121 => ?_)
              dsimp only [ucgo, ucwp, ucsC, uqC, uoC, ctC, rfd, KX2_leadTo, KX2_leadTo_0, KX2_leadTo_6, KX2_leadTo_11, KX2_leadTo_20, KX2_leadTo_28, KX2_leadTo_44, KX2_leadTo_54, KX2_leadTo_61, KX2_leadTo_70, KX2_leadTo_87, KX2_leadTo_94, KX2_leadTo_108, lkC, s1C, s2C, dlC, kyC, Nat.beq, Nat.ble, rcd, rno, rsw, Nat.reduceAdd, Nat.reduceBEq, Nat.reduceDiv, List.drop, List.take, List.reverse, List.reverseAux, Int.toNat, Option.toList, List.append, List.cons_append, List.nil_append, zg270, zg273, zg278, zg281, zg286, zg287, zg288]
              intro a122 e122 ob122
              cases e122
              have f123 : (fRC σ p1 281) = opA B (tjT N z j) := by rw [hp]; exact (hTg j hj hk).1
              intro a124 e124 ob124
              have htl124 := (hTg j hj hk).2.2
              obtain ⟨j124, hj124, hb124⟩ := opA_j (f123.symm.trans e124)
              have hl124 : j124 < snM z := by omega
              have o125 := hSs.1 j124 hl124
              subst hb124
              have f126 : (fLC σ (B j124) 287) = g.2.2.1 j124 := (hG.1 j124 hl124).2.2.1
              intro a127 e127 ob127 fk127
              have htl127 := (hTg j hj hk).2.2
              obtain ⟨j127, hj127, hb127⟩ := opA_j (f123.symm.trans e127)
              have hl127 : j127 < snM z := by omega
              have o128 := hSs.1 j127 hl127
              subst hb127
              clear fk127 ob127
              generalize hs127 : pLC σ (B j127) 287 ((fLC σ (B j124) 287) &&& m9) = s127
              rw [show j124 = j127 by omega] at hs127
              have f126x := f126
              rw [show j124 = j127 by omega] at f126x
              rw [show ((fLC σ (B j127) 287) &&& m9) = ((g.2.2.1 j127) &&& m9) by simp only [f126x]] at hs127
              have hG127 := AzC.k hG hBi hl127 hs127
              have hF127 : FrE [91, 92, 94, 217, 218, 285, 286, 287, 288, 901] σ s127 := FrE.pL2 FrE.rf (by decide) hs127
              have hSs_127 := SsC.fr hSs hF127 rfl
              have hPf_127 := PfC.fr hPf hF127 rfl
              have hTg_127 := TgC.fr hTg hF127 rfl
              have op_127 : SlC A B s127 z j p1 ∧ p1 < cnC s127 := by rw [hp]; exact hSs_127.1 j hj
              have o92_127 := hSs_127.1 j52 hl52
              have o101_127 := hSs_127.1 j100 hl100
              have o125_127 := hSs_127.1 j124 hl124
              have o128_127 := hSs_127.1 j127 hl127
              refine hB _ _ _ _ _ (fun m129 hm129 => ?_)
              dsimp only [ucgo, ucwp, ucsC, uqC, uoC, ctC, rfd, KX2_leadTo, KX2_leadTo_0, KX2_leadTo_6, KX2_leadTo_11, KX2_leadTo_20, KX2_leadTo_28, KX2_leadTo_44, KX2_leadTo_54, KX2_leadTo_61, KX2_leadTo_70, KX2_leadTo_87, KX2_leadTo_94, KX2_leadTo_108, lkC, s1C, s2C, dlC, kyC, Nat.beq, Nat.ble, rcd, rno, rsw, Nat.reduceAdd, Nat.reduceBEq, Nat.reduceDiv, List.drop, List.take, List.reverse, List.reverseAux, Int.toNat, Option.toList, List.append, List.cons_append, List.nil_append, zg270, zg273, zg278, zg281, zg286, zg287, zg288]
              try dsimp only [Qz_leadTo]
              exact fun τ9 h9 => ⟨rfl, by unfold ldT; rw [if_neg (by omega), if_pos (by omega), show (tjT N z j).toNat = j127 by omega, heq.trans (ltx_eq (show (j52 : Int) = tjT N z j by omega))]; exact hG127.we h9⟩
        · have hne : ¬ (j52 : Int) = tjT N z j := fun q9 => h96 (by rw [(h52.trans (congrArg some hb52)), f95, ← q9, opA_k])
          refine hB _ _ _ _ _ (fun m130 hm130 => ?_)
          dsimp only [ucgo, ucwp, ucsC, uqC, uoC, ctC, rfd, KX2_leadTo, KX2_leadTo_0, KX2_leadTo_6, KX2_leadTo_11, KX2_leadTo_20, KX2_leadTo_28, KX2_leadTo_44, KX2_leadTo_54, KX2_leadTo_61, KX2_leadTo_70, KX2_leadTo_87, KX2_leadTo_94, KX2_leadTo_108, lkC, s1C, s2C, dlC, kyC, Nat.beq, Nat.ble, rcd, rno, rsw, Nat.reduceAdd, Nat.reduceBEq, Nat.reduceDiv, List.drop, List.take, List.reverse, List.reverseAux, Int.toNat, Option.toList, List.append, List.cons_append, List.nil_append, zg270, zg273, zg278, zg281, zg286, zg287, zg288]
          rw [(h52.trans (congrArg some hb52))]
          try dsimp only
          intro w131 τ131 o131 q131
          obtain ⟨r131, rfl, hr131, rfl⟩ := q131 (N, E, A, B, V, z, T, ms, nm, j52) ⟨_, rfl, hSs, hwf, hBi, hl52, rfl⟩
          try dsimp only [Option.toList, List.cons_append, List.nil_append, s1C, s2C, dlC, kyC, Nat.beq, lkC, rcd, rno, rsw]
          refine ⟨fun h132 => ?_, fun h132 => ?_⟩
          · have g132 := (eqI (x := r131) (y := 0) h132 : (r131 : Int32).toInt = (0 : Int32).toInt)
            have z0_ : (0 : Int32).toInt = 0 := rfl
            have hb132 : (hfA z j52) = false := bZI_f (by omega)
            refine hB _ _ _ _ _ (fun m133 hm133 => ?_)
            dsimp only [ucgo, ucwp, ucsC, uqC, uoC, ctC, rfd, KX2_leadTo, KX2_leadTo_0, KX2_leadTo_6, KX2_leadTo_11, KX2_leadTo_20, KX2_leadTo_28, KX2_leadTo_44, KX2_leadTo_54, KX2_leadTo_61, KX2_leadTo_70, KX2_leadTo_87, KX2_leadTo_94, KX2_leadTo_108, lkC, s1C, s2C, dlC, kyC, Nat.beq, Nat.ble, rcd, rno, rsw, Nat.reduceAdd, Nat.reduceBEq, Nat.reduceDiv, List.drop, List.take, List.reverse, List.reverseAux, Int.toNat, Option.toList, List.append, List.cons_append, List.nil_append, zg270, zg273, zg278, zg281, zg286, zg287, zg288]
            intro a134 e134 ob134
            cases e134
            have f135 : (fRC σ (B j52) 273) = opA B (paS z j52) := o92.1.1.2.2.2
            exact hW _ 6 [(0, .inr (.inr (some (E 4)))), (1, .inr (.inr (some p1))), (2, .inr (.inl p2)), (4, .inr (.inl m9)), (6, .inr (.inr (fRC σ (B j52) 273)))] _ _ _ (List.forall_mem_cons.2 ⟨List.Mem.tail _ (List.Mem.head _), List.forall_mem_cons.2 ⟨List.Mem.tail _ (List.Mem.tail _ (List.Mem.head _)), List.forall_mem_cons.2 ⟨List.Mem.tail _ (List.Mem.tail _ (List.Mem.tail _ (List.Mem.head _))), List.forall_mem_cons.2 ⟨List.Mem.tail _ (List.Mem.tail _ (List.Mem.tail _ (List.Mem.tail _ (List.Mem.head _)))), List.forall_mem_cons.2 ⟨List.Mem.head _, fun _ h => absurd h List.not_mem_nil⟩⟩⟩⟩⟩) (ih _ (by omega) (fRC σ (B j52) 273) (paS z j52) k9 m9 (by have := (hwf j52 hl52).1; omega) f135 (heq.trans ((ltx_s hne).trans (by rw [if_neg (by rw [hb132]; decide)]))))
          · have g132 := (neI (x := r131) (y := 0) h132 : ¬ (r131 : Int32).toInt = (0 : Int32).toInt)
            have z0_ : (0 : Int32).toInt = 0 := rfl
            have hb132 : (hfA z j52) = true := bZI_t (by omega)
            refine hB _ _ _ _ _ (fun m136 hm136 => ?_)
            dsimp only [ucgo, ucwp, ucsC, uqC, uoC, ctC, rfd, KX2_leadTo, KX2_leadTo_0, KX2_leadTo_6, KX2_leadTo_11, KX2_leadTo_20, KX2_leadTo_28, KX2_leadTo_44, KX2_leadTo_54, KX2_leadTo_61, KX2_leadTo_70, KX2_leadTo_87, KX2_leadTo_94, KX2_leadTo_108, lkC, s1C, s2C, dlC, kyC, Nat.beq, Nat.ble, rcd, rno, rsw, Nat.reduceAdd, Nat.reduceBEq, Nat.reduceDiv, List.drop, List.take, List.reverse, List.reverseAux, Int.toNat, Option.toList, List.append, List.cons_append, List.nil_append, zg270, zg273, zg278, zg281, zg286, zg287, zg288]
            intro a137 e137 ob137
            cases e137
            have f138 : (fRC σ (B j52) 273) = opA B (paS z j52) := o92.1.1.2.2.2
            intro a139 e139 ob139
            obtain ⟨j139, hj139, hb139⟩ := opA_j (f138.symm.trans e139)
            have hwx139 := (hwf j52 hl52).1
            have hl139 : j139 < snM z := by omega
            have o140 := hSs.1 j139 hl139
            subst hb139
            have f141 : (fRC σ (B j139) 278) = opA B (gjS z j139) := o140.1.2.2.2.2.1
            intro a142 e142 ob142
            obtain ⟨j142, hj142, hb142⟩ := opA_j (f141.symm.trans e142)
            have hwx142 := (hwf j139 hl139).1
            have hl142 : j142 < snM z := by omega
            have o143 := hSs.1 j142 hl142
            subst hb142
            have f144 : (fLC σ (B j142) 286) = g.2.1 (gjS z (paS z j52).toNat).toNat := by
              rw [show (paS z j52).toNat = j139 by omega, show (gjS z j139).toNat = j142 by omega]
              exact (hG.1 j142 hl142).2.1
            refine hB _ _ _ _ _ (fun m145 hm145 => ?_)
            dsimp only [ucgo, ucwp, ucsC, uqC, uoC, ctC, rfd, KX2_leadTo, KX2_leadTo_0, KX2_leadTo_6, KX2_leadTo_11, KX2_leadTo_20, KX2_leadTo_28, KX2_leadTo_44, KX2_leadTo_54, KX2_leadTo_61, KX2_leadTo_70, KX2_leadTo_87, KX2_leadTo_94, KX2_leadTo_108, lkC, s1C, s2C, dlC, kyC, Nat.beq, Nat.ble, rcd, rno, rsw, Nat.reduceAdd, Nat.reduceBEq, Nat.reduceDiv, List.drop, List.take, List.reverse, List.reverseAux, Int.toNat, Option.toList, List.append, List.cons_append, List.nil_append, zg270, zg273, zg278, zg281, zg286, zg287, zg288]
            intro a146 e146 ob146
            cases e146
            have f147 : (fRC σ (B j52) 273) = opA B (paS z j52) := o92.1.1.2.2.2
            exact hW _ 6 [(0, .inr (.inr (some (E 4)))), (1, .inr (.inr (some p1))), (2, .inr (.inl p2)), (4, .inr (.inl (m9 ||| (fLC σ (B j142) 286)))), (6, .inr (.inr (fRC σ (B j52) 273)))] _ _ _ (List.forall_mem_cons.2 ⟨List.Mem.tail _ (List.Mem.tail _ (List.Mem.head _)), List.forall_mem_cons.2 ⟨List.Mem.tail _ (List.Mem.tail _ (List.Mem.tail _ (List.Mem.head _))), List.forall_mem_cons.2 ⟨List.Mem.tail _ (List.Mem.tail _ (List.Mem.tail _ (List.Mem.tail _ (List.Mem.head _)))), List.forall_mem_cons.2 ⟨List.Mem.tail _ (List.Mem.head _), List.forall_mem_cons.2 ⟨List.Mem.head _, fun _ h => absurd h List.not_mem_nil⟩⟩⟩⟩⟩) (ih _ (by omega) (fRC σ (B j52) 273) (paS z j52) k9 (m9 ||| (fLC σ (B j142) 286)) (by have := (hwf j52 hl52).1; omega) f147 (heq.trans ((ltx_s hne).trans (by rw [if_pos hb132]; rw [← f144]))))
  change K n_ 0 [(0, .inr (.inr (some (E 4)))), (1, .inr (.inr (some p1))), (2, .inr (.inl p2))] [] σ
  refine hB _ _ _ _ _ (fun m148 hm148 => ?_)
  dsimp only [ucgo, ucwp, ucsC, uqC, uoC, ctC, rfd, KX2_leadTo, KX2_leadTo_0, KX2_leadTo_6, KX2_leadTo_11, KX2_leadTo_20, KX2_leadTo_28, KX2_leadTo_44, KX2_leadTo_54, KX2_leadTo_61, KX2_leadTo_70, KX2_leadTo_87, KX2_leadTo_94, KX2_leadTo_108, lkC, s1C, s2C, dlC, kyC, Nat.beq, Nat.ble, rcd, rno, rsw, Nat.reduceAdd, Nat.reduceBEq, Nat.reduceDiv, List.drop, List.take, List.reverse, List.reverseAux, Int.toNat, Option.toList, List.append, List.cons_append, List.nil_append, zg270, zg273, zg278, zg281, zg286, zg287, zg288]
  exact hW _ 6 [(0, .inr (.inr (some (E 4)))), (1, .inr (.inr (some p1))), (2, .inr (.inl p2)), (4, .inr (.inl p2)), (6, .inr (.inr (some p1)))] _ _ _ (List.forall_mem_cons.2 ⟨List.Mem.tail _ (List.Mem.tail _ (List.Mem.head _)), List.forall_mem_cons.2 ⟨List.Mem.tail _ (List.Mem.tail _ (List.Mem.tail _ (List.Mem.head _))), List.forall_mem_cons.2 ⟨List.Mem.tail _ (List.Mem.tail _ (List.Mem.tail _ (List.Mem.tail _ (List.Mem.head _)))), List.forall_mem_cons.2 ⟨List.Mem.tail _ (List.Mem.head _), List.forall_mem_cons.2 ⟨List.Mem.head _, fun _ h => absurd h List.not_mem_nil⟩⟩⟩⟩⟩) (L6 _ (some p1) (j : Int) (snM z) p2 (by omega) (by rw [hp, opA_k]) rfl)
theorem wz_leadTo : ∀ (L : Nat) (As : List AvC) (σ : CsC) (w : Option AvC) (τ : CsC), EvF L 34 As σ w τ → Uz_leadTo As σ w τ := by
  intro L
  cases L with
  | zero => exact fun _ _ _ _ h => h.elim
  | succ L => exact fun As σ w τ h y hy => EvF.us (cs := [181]) (pz_leadTo y) rfl (List.forall_mem_cons.2 ⟨wz_hasFinallyAhead L, fun _ h => absurd h List.not_mem_nil⟩) h hy
/-! the class's flow: SURELY assigned along S's -/
def lpA (F : AsT) (z : ZS) (T : TbT) (j : Nat) (m : Int64) (g : GzA) : Int64 × GzA := if kjS z j = 59 then doA F z T j m g else whA F z T j m g
theorem ina_b {F : AsT} {N : Int → Int} {z : ZS} {T : TbT} {j : Nat} {m : Int64} {g : GzA} (h : kjS z j = 2 ∨ kjS z j = 92) : inA F N z T j m g = F.1 (bjS z j) m g := by unfold inA; rw [if_pos h]
theorem ina_t {F : AsT} {N : Int → Int} {z : ZS} {T : TbT} {j : Nat} {m : Int64} {g : GzA} (h : kjS z j = 91 ∨ kjS z j = 93) : inA F N z T j m g = tdA z T j m g := by unfold inA; rw [if_neg (by omega), if_pos h]
theorem ina_e {F : AsT} {N : Int → Int} {z : ZS} {T : TbT} {j : Nat} {m : Int64} {g : GzA} (h : kjS z j = 90 ∨ kjS z j = 94) : inA F N z T j m g = exB z T (xjS z j) m g := by unfold inA; rw [if_neg (by omega), if_neg (by omega), if_pos h]
theorem ina_r {F : AsT} {N : Int → Int} {z : ZS} {T : TbT} {j : Nat} {m : Int64} {g : GzA} (h : kjS z j = 66 ∨ kjS z j = 67) : inA F N z T j m g = (allB, (exB z T (xjS z j) m g).2) := by unfold inA; rw [if_neg (by omega), if_neg (by omega), if_neg (by omega), if_pos h]
theorem ina_j {F : AsT} {N : Int → Int} {z : ZS} {T : TbT} {j : Nat} {m : Int64} {g : GzA} (h : kjS z j = 64 ∨ kjS z j = 65) : inA F N z T j m g = (allB, ldT N z j m g) := by unfold inA; rw [if_neg (by omega), if_neg (by omega), if_neg (by omega), if_neg (by omega), if_pos h]
theorem ina_l {F : AsT} {N : Int → Int} {z : ZS} {T : TbT} {j : Nat} {m : Int64} {g : GzA} (h : kjS z j = 6) : inA F N z T j m g = laA F z j m g := by unfold inA; rw [if_neg (by omega), if_neg (by omega), if_neg (by omega), if_neg (by omega), if_neg (by omega), if_pos h]
theorem ina_i {F : AsT} {N : Int → Int} {z : ZS} {T : TbT} {j : Nat} {m : Int64} {g : GzA} (h : kjS z j = 56) : inA F N z T j m g = ifA F z T j m g := by unfold inA; rw [if_neg (by omega), if_neg (by omega), if_neg (by omega), if_neg (by omega), if_neg (by omega), if_neg (by omega), if_pos h]
theorem ina_d {F : AsT} {N : Int → Int} {z : ZS} {T : TbT} {j : Nat} {m : Int64} {g : GzA} (h : kjS z j = 59) : inA F N z T j m g = doA F z T j m g := by unfold inA; rw [if_neg (by omega), if_neg (by omega), if_neg (by omega), if_neg (by omega), if_neg (by omega), if_neg (by omega), if_neg (by omega), if_pos h]
theorem ina_w {F : AsT} {N : Int → Int} {z : ZS} {T : TbT} {j : Nat} {m : Int64} {g : GzA} (h : kjS z j = 58 ∨ kjS z j = 60) : inA F N z T j m g = whA F z T j m g := by unfold inA; rw [if_neg (by omega), if_neg (by omega), if_neg (by omega), if_neg (by omega), if_neg (by omega), if_neg (by omega), if_neg (by omega), if_neg (by omega), if_pos h]
theorem ina_s {F : AsT} {N : Int → Int} {z : ZS} {T : TbT} {j : Nat} {m : Int64} {g : GzA} (h : kjS z j = 61) : inA F N z T j m g = swA F z T j m g := by unfold inA; rw [if_neg (by omega), if_neg (by omega), if_neg (by omega), if_neg (by omega), if_neg (by omega), if_neg (by omega), if_neg (by omega), if_neg (by omega), if_neg (by omega), if_pos h]
theorem ina_y {F : AsT} {N : Int → Int} {z : ZS} {T : TbT} {j : Nat} {m : Int64} {g : GzA} (h : kjS z j = 68) : inA F N z T j m g = tyA F z j m g := by unfold inA; rw [if_neg (by omega), if_neg (by omega), if_neg (by omega), if_neg (by omega), if_neg (by omega), if_neg (by omega), if_neg (by omega), if_neg (by omega), if_neg (by omega), if_neg (by omega), if_pos h]
theorem ina_o {F : AsT} {N : Int → Int} {z : ZS} {T : TbT} {j : Nat} {m : Int64} {g : GzA} (h : ¬ (kjS z j = 2 ∨ kjS z j = 92 ∨ kjS z j = 91 ∨ kjS z j = 93 ∨ kjS z j = 90 ∨ kjS z j = 94 ∨ kjS z j = 66 ∨ kjS z j = 67 ∨ kjS z j = 64 ∨ kjS z j = 65 ∨ kjS z j = 6 ∨ kjS z j = 56 ∨ kjS z j = 59 ∨ kjS z j = 58 ∨ kjS z j = 60 ∨ kjS z j = 61 ∨ kjS z j = 68)) : inA F N z T j m g = (m, g) := by unfold inA; rw [if_neg (by omega), if_neg (by omega), if_neg (by omega), if_neg (by omega), if_neg (by omega), if_neg (by omega), if_neg (by omega), if_neg (by omega), if_neg (by omega), if_neg (by omega), if_neg (by omega)]
theorem lp_in {F : AsT} {N : Int → Int} {z : ZS} {T : TbT} {j : Nat} {m : Int64} {g : GzA} (h : kjS z j = 58 ∨ kjS z j = 59 ∨ kjS z j = 60) : inA F N z T j m g = lpA F z T j m g := by
  unfold lpA
  by_cases c : kjS z j = 59
  · rw [if_pos c, ina_d c]
  · rw [if_neg c, ina_w (by omega)]
abbrev Pz_assign : ((Int → Int) × (Nat → Nat) × (Nat → Nat) × (Nat → Nat) × (Nat → Nat) × ZS × TbT × MfT × Nat × Nat × GzA × Nat) → CpC := fun y As σ => match y with
  | (N, E, A, B, V, z, T, ms, nm, j, g, f) => ∃ (p1 : Nat) (p2 : Int64), As = [.inr (.inr (some (E 4))), .inr (.inr (some p1)), .inr (.inl p2)] ∧ (SsC E A B σ z T ms nm) ∧ (PfC E σ) ∧ (TgC N B σ z) ∧ (WfS z T ∧ UpS z ∧ BiC B z ∧ SxS z) ∧ (j < snM z) ∧ (p1 = B j) ∧ (AzC E B σ z g) ∧ (2 * snM z ≤ f + 2 * j)
abbrev Qz_assign : ((Int → Int) × (Nat → Nat) × (Nat → Nat) × (Nat → Nat) × (Nat → Nat) × ZS × TbT × MfT × Nat × Nat × GzA × Nat) → CqC := fun y As σ w τ => match y, As with
  | (N, E, A, B, V, z, T, ms, nm, j, g, f), [_, .inr (.inr (some p1)), .inr (.inl p2)] => ∃ r, w = some (.inr (.inl r)) ∧ r = ((asF N z T f).2.2 j p2 g).1 ∧ AzC E B τ z ((asF N z T f).2.2 j p2 g).2
  | _, _ => True
abbrev Uz_assign : CqC := fun As σ w τ => ∀ y, Pz_assign y As σ → Qz_assign y As σ w τ
abbrev Pz_assignRow : ((Int → Int) × (Nat → Nat) × (Nat → Nat) × (Nat → Nat) × (Nat → Nat) × ZS × TbT × MfT × Nat × Int × GzA × Nat) → CpC := fun y As σ => match y with
  | (N, E, A, B, V, z, T, ms, nm, x, g, f) => ∃ (p1 : Option Nat) (p2 : Int64), As = [.inr (.inr (some (E 4))), .inr (.inr p1), .inr (.inl p2)] ∧ (SsC E A B σ z T ms nm) ∧ (PfC E σ) ∧ (TgC N B σ z) ∧ (WfS z T ∧ UpS z ∧ BiC B z ∧ SxS z) ∧ (AzC E B σ z g) ∧ (p1 = opA B x) ∧ (x < (snM z : Int)) ∧ (0 ≤ x → 2 * (snM z : Int) + 1 ≤ (f : Int) + 2 * x)
abbrev Qz_assignRow : ((Int → Int) × (Nat → Nat) × (Nat → Nat) × (Nat → Nat) × (Nat → Nat) × ZS × TbT × MfT × Nat × Int × GzA × Nat) → CqC := fun y As σ w τ => match y, As with
  | (N, E, A, B, V, z, T, ms, nm, x, g, f), [_, .inr (.inr p1), .inr (.inl p2)] => ∃ r, w = some (.inr (.inl r)) ∧ r = ((asF N z T f).1 x p2 g).1 ∧ AzC E B τ z ((asF N z T f).1 x p2 g).2
  | _, _ => True
abbrev Uz_assignRow : CqC := fun As σ w τ => ∀ y, Pz_assignRow y As σ → Qz_assignRow y As σ w τ
abbrev Pz_assignBody : ((Int → Int) × (Nat → Nat) × (Nat → Nat) × (Nat → Nat) × (Nat → Nat) × ZS × TbT × MfT × Nat × Nat × GzA × Nat) → CpC := fun y As σ => match y with
  | (N, E, A, B, V, z, T, ms, nm, j, g, f) => ∃ (p1 : Nat) (p2 : Int64), As = [.inr (.inr (some (E 4))), .inr (.inr (some p1)), .inr (.inl p2)] ∧ (SsC E A B σ z T ms nm) ∧ (PfC E σ) ∧ (TgC N B σ z) ∧ (WfS z T ∧ UpS z ∧ BiC B z ∧ SxS z) ∧ (j < snM z) ∧ (p1 = B j) ∧ (AzC E B σ z g) ∧ (2 * snM z ≤ f + 1 + 2 * j)
abbrev Qz_assignBody : ((Int → Int) × (Nat → Nat) × (Nat → Nat) × (Nat → Nat) × (Nat → Nat) × ZS × TbT × MfT × Nat × Nat × GzA × Nat) → CqC := fun y As σ w τ => match y, As with
  | (N, E, A, B, V, z, T, ms, nm, j, g, f), [_, .inr (.inr (some p1)), .inr (.inl p2)] => ∃ r, w = some (.inr (.inl r)) ∧ r = (bdA (asF N z T f) z j p2 g).1 ∧ AzC E B τ z (bdA (asF N z T f) z j p2 g).2
  | _, _ => True
abbrev Uz_assignBody : CqC := fun As σ w τ => ∀ y, Pz_assignBody y As σ → Qz_assignBody y As σ w τ
abbrev Pz_behind : ((Int → Int) × (Nat → Nat) × (Nat → Nat) × (Nat → Nat) × (Nat → Nat) × ZS × TbT × MfT × Nat × Nat × GzA × Nat) → CpC := fun y As σ => match y with
  | (N, E, A, B, V, z, T, ms, nm, j, g, f) => ∃ (p1 : Nat) (p2 : Int64), As = [.inr (.inr (some (E 4))), .inr (.inr (some p1)), .inr (.inl p2)] ∧ (SsC E A B σ z T ms nm) ∧ (PfC E σ) ∧ (TgC N B σ z) ∧ (WfS z T ∧ UpS z ∧ BiC B z ∧ SxS z) ∧ (j < snM z) ∧ (p1 = B j) ∧ (AzC E B σ z g) ∧ (2 * snM z ≤ f + 1 + 2 * j)
abbrev Qz_behind : ((Int → Int) × (Nat → Nat) × (Nat → Nat) × (Nat → Nat) × (Nat → Nat) × ZS × TbT × MfT × Nat × Nat × GzA × Nat) → CqC := fun y As σ w τ => match y, As with
  | (N, E, A, B, V, z, T, ms, nm, j, g, f), [_, .inr (.inr (some p1)), .inr (.inl p2)] => ∃ r, w = some (.inr (.inl r)) ∧ r = (inA (asF N z T f) N z T j p2 g).1 ∧ AzC E B τ z (inA (asF N z T f) N z T j p2 g).2
  | _, _ => True
abbrev Uz_behind : CqC := fun As σ w τ => ∀ y, Pz_behind y As σ → Qz_behind y As σ w τ
abbrev Pz_behindIf : ((Int → Int) × (Nat → Nat) × (Nat → Nat) × (Nat → Nat) × (Nat → Nat) × ZS × TbT × MfT × Nat × Nat × GzA × Nat) → CpC := fun y As σ => match y with
  | (N, E, A, B, V, z, T, ms, nm, j, g, f) => ∃ (p1 : Nat) (p2 : Int64), As = [.inr (.inr (some (E 4))), .inr (.inr (some p1)), .inr (.inl p2)] ∧ (SsC E A B σ z T ms nm) ∧ (PfC E σ) ∧ (TgC N B σ z) ∧ (WfS z T ∧ UpS z ∧ BiC B z ∧ SxS z) ∧ (j < snM z) ∧ (p1 = B j) ∧ (AzC E B σ z g) ∧ (2 * snM z ≤ f + 1 + 2 * j)
abbrev Qz_behindIf : ((Int → Int) × (Nat → Nat) × (Nat → Nat) × (Nat → Nat) × (Nat → Nat) × ZS × TbT × MfT × Nat × Nat × GzA × Nat) → CqC := fun y As σ w τ => match y, As with
  | (N, E, A, B, V, z, T, ms, nm, j, g, f), [_, .inr (.inr (some p1)), .inr (.inl p2)] => ∃ r, w = some (.inr (.inl r)) ∧ r = (ifA (asF N z T f) z T j p2 g).1 ∧ AzC E B τ z (ifA (asF N z T f) z T j p2 g).2
  | _, _ => True
abbrev Uz_behindIf : CqC := fun As σ w τ => ∀ y, Pz_behindIf y As σ → Qz_behindIf y As σ w τ
abbrev Pz_behindLoop : ((Int → Int) × (Nat → Nat) × (Nat → Nat) × (Nat → Nat) × (Nat → Nat) × ZS × TbT × MfT × Nat × Nat × GzA × Nat) → CpC := fun y As σ => match y with
  | (N, E, A, B, V, z, T, ms, nm, j, g, f) => ∃ (p1 : Nat) (p2 : Int64), As = [.inr (.inr (some (E 4))), .inr (.inr (some p1)), .inr (.inl p2)] ∧ (SsC E A B σ z T ms nm) ∧ (PfC E σ) ∧ (TgC N B σ z) ∧ (WfS z T ∧ UpS z ∧ BiC B z ∧ SxS z) ∧ (j < snM z) ∧ (p1 = B j) ∧ (AzC E B σ z g) ∧ (2 * snM z ≤ f + 1 + 2 * j) ∧ (kjS z j = 58 ∨ kjS z j = 59 ∨ kjS z j = 60)
abbrev Qz_behindLoop : ((Int → Int) × (Nat → Nat) × (Nat → Nat) × (Nat → Nat) × (Nat → Nat) × ZS × TbT × MfT × Nat × Nat × GzA × Nat) → CqC := fun y As σ w τ => match y, As with
  | (N, E, A, B, V, z, T, ms, nm, j, g, f), [_, .inr (.inr (some p1)), .inr (.inl p2)] => ∃ r, w = some (.inr (.inl r)) ∧ r = (lpA (asF N z T f) z T j p2 g).1 ∧ AzC E B τ z (lpA (asF N z T f) z T j p2 g).2
  | _, _ => True
abbrev Uz_behindLoop : CqC := fun As σ w τ => ∀ y, Pz_behindLoop y As σ → Qz_behindLoop y As σ w τ
abbrev Pz_behindSwitch : ((Int → Int) × (Nat → Nat) × (Nat → Nat) × (Nat → Nat) × (Nat → Nat) × ZS × TbT × MfT × Nat × Nat × GzA × Nat) → CpC := fun y As σ => match y with
  | (N, E, A, B, V, z, T, ms, nm, j, g, f) => ∃ (p1 : Nat) (p2 : Int64), As = [.inr (.inr (some (E 4))), .inr (.inr (some p1)), .inr (.inl p2)] ∧ (SsC E A B σ z T ms nm) ∧ (PfC E σ) ∧ (TgC N B σ z) ∧ (WfS z T ∧ UpS z ∧ BiC B z ∧ SxS z) ∧ (j < snM z) ∧ (p1 = B j) ∧ (AzC E B σ z g) ∧ (2 * snM z ≤ f + 1 + 2 * j)
abbrev Qz_behindSwitch : ((Int → Int) × (Nat → Nat) × (Nat → Nat) × (Nat → Nat) × (Nat → Nat) × ZS × TbT × MfT × Nat × Nat × GzA × Nat) → CqC := fun y As σ w τ => match y, As with
  | (N, E, A, B, V, z, T, ms, nm, j, g, f), [_, .inr (.inr (some p1)), .inr (.inl p2)] => ∃ r, w = some (.inr (.inl r)) ∧ r = (swA (asF N z T f) z T j p2 g).1 ∧ AzC E B τ z (swA (asF N z T f) z T j p2 g).2
  | _, _ => True
abbrev Uz_behindSwitch : CqC := fun As σ w τ => ∀ y, Pz_behindSwitch y As σ → Qz_behindSwitch y As σ w τ
abbrev Pz_behindTry : ((Int → Int) × (Nat → Nat) × (Nat → Nat) × (Nat → Nat) × (Nat → Nat) × ZS × TbT × MfT × Nat × Nat × GzA × Nat) → CpC := fun y As σ => match y with
  | (N, E, A, B, V, z, T, ms, nm, j, g, f) => ∃ (p1 : Nat) (p2 : Int64), As = [.inr (.inr (some (E 4))), .inr (.inr (some p1)), .inr (.inl p2)] ∧ (SsC E A B σ z T ms nm) ∧ (PfC E σ) ∧ (TgC N B σ z) ∧ (WfS z T ∧ UpS z ∧ BiC B z ∧ SxS z) ∧ (j < snM z) ∧ (p1 = B j) ∧ (AzC E B σ z g) ∧ (2 * snM z ≤ f + 1 + 2 * j)
abbrev Qz_behindTry : ((Int → Int) × (Nat → Nat) × (Nat → Nat) × (Nat → Nat) × (Nat → Nat) × ZS × TbT × MfT × Nat × Nat × GzA × Nat) → CqC := fun y As σ w τ => match y, As with
  | (N, E, A, B, V, z, T, ms, nm, j, g, f), [_, .inr (.inr (some p1)), .inr (.inl p2)] => ∃ r, w = some (.inr (.inl r)) ∧ r = (tyA (asF N z T f) z j p2 g).1 ∧ AzC E B τ z (tyA (asF N z T f) z j p2 g).2
  | _, _ => True
abbrev Uz_behindTry : CqC := fun As σ w τ => ∀ y, Pz_behindTry y As σ → Qz_behindTry y As σ w τ
set_option maxHeartbeats 4000000 in
theorem pz_assign (y : (Int → Int) × (Nat → Nat) × (Nat → Nat) × (Nat → Nat) × (Nat → Nat) × ZS × TbT × MfT × Nat × Nat × GzA × Nat) : PbC KX2_assign [(32, TrP, EqC 32)] [(32, Uz_behind)] (fun As σ => Pz_assign y As σ ∧ cnC σ ≤ 1000000 ∧ ∃ w τ, uqC quL 29 As σ w τ) (Qz_assign y) := by
  obtain ⟨N, E, A, B, V, z, T, ms, nm, j, g, f⟩ := y
  rintro As σ ⟨⟨p1, p2, rfl, hSs, hPf, hTg, hwf, hj, hp, hG, hfu⟩, hcn, _, _, hQ⟩ K hB hW n_
  obtain ⟨hwf, hup, hBi, hsx⟩ := hwf
  have op : SlC A B σ z j p1 ∧ p1 < cnC σ := by rw [hp]; exact hSs.1 j hj
  obtain ⟨f, rfl⟩ : ∃ f9, f = f9 + 1 := ⟨f - 1, by omega⟩
  change K n_ 0 [(0, .inr (.inr (some (E 4)))), (1, .inr (.inr (some p1))), (2, .inr (.inl p2))] [] σ
  refine hB _ _ _ _ _ (fun m51 hm51 => ?_)
  dsimp only [ucgo, ucwp, ucsC, uqC, uoC, ctC, rfd, KX2_assign, KX2_assign_0, KX2_assign_15, KX2_assign_19, KX2_assign_25, lkC, s1C, s2C, dlC, kyC, Nat.beq, Nat.ble, rcd, rno, rsw, Nat.reduceAdd, Nat.reduceBEq, Nat.reduceDiv, List.drop, List.take, List.reverse, List.reverseAux, Int.toNat, Option.toList, List.append, List.cons_append, List.nil_append, zg272, zg286]
  intro a52 e52 ob52 fk52
  cases e52
  clear fk52 ob52
  generalize hs52 : pLC σ p1 285 p2 = s52
  rw [hp] at hs52
  have hG52 := AzC.b hG hBi hj hs52
  have hF52 : FrE [91, 92, 94, 217, 218, 285, 286, 287, 288, 901] σ s52 := FrE.pL2 FrE.rf (by decide) hs52
  have hSs_52 := SsC.fr hSs hF52 rfl
  have hPf_52 := PfC.fr hPf hF52 rfl
  have hTg_52 := TgC.fr hTg hF52 rfl
  have op_52 : SlC A B s52 z j p1 ∧ p1 < cnC s52 := by rw [hp]; exact hSs_52.1 j hj
  intro a53 e53 ob53
  cases e53
  have f54 : (fIC s52 p1 272).toInt = (reS z j).1.2.2.1 := op_52.1.1.2.2.1
  have c55 : (Int32.ofInt 20).toInt = 20 := by decide
  refine ⟨fun h56 => ?_, fun h56 => ?_⟩
  · have g56 := leI (x := (fIC s52 p1 272)) (y := (Int32.ofInt 20)) h56
    refine hB _ _ _ _ _ (fun m57 hm57 => ?_)
    dsimp only [ucgo, ucwp, ucsC, uqC, uoC, ctC, rfd, KX2_assign, KX2_assign_0, KX2_assign_15, KX2_assign_19, KX2_assign_25, lkC, s1C, s2C, dlC, kyC, Nat.beq, Nat.ble, rcd, rno, rsw, Nat.reduceAdd, Nat.reduceBEq, Nat.reduceDiv, List.drop, List.take, List.reverse, List.reverseAux, Int.toNat, Option.toList, List.append, List.cons_append, List.nil_append, zg272, zg286]
    intro w58 τ58 o58 q58
    obtain ⟨v58, rfl, hv58, hG58⟩ := q58 (N, E, A, B, V, z, T, ms, nm, j, gaB j p2 g, f) ⟨_, _, rfl, hSs_52, hPf_52, hTg_52, ⟨hwf, hup, hBi, hsx⟩, hj, hp, hG52, (by have := hup j hj; omega)⟩
    have hF58 : FrE [91, 92, 94, 217, 218, 285, 286, 287, 288, 901] σ τ58 := hF52.tr (o58.2.mo rfl)
    have hSs_58 := SsC.fr hSs hF58 rfl
    have hPf_58 := PfC.fr hPf hF58 rfl
    have hTg_58 := TgC.fr hTg hF58 rfl
    have op_58 : SlC A B τ58 z j p1 ∧ p1 < cnC τ58 := by rw [hp]; exact hSs_58.1 j hj
    obtain ⟨Q58, hQ58⟩ : ∃ q, inA (asF N z T f) N z T j p2 (gaB j p2 g) = q := ⟨_, rfl⟩
    rw [hQ58] at hv58 hG58
    try dsimp only [Option.toList, List.cons_append, List.nil_append, s1C, s2C, dlC, kyC, Nat.beq, lkC, rcd, rno, rsw]
    refine hB _ _ _ _ _ (fun m59 hm59 => ?_)
    dsimp only [ucgo, ucwp, ucsC, uqC, uoC, ctC, rfd, KX2_assign, KX2_assign_0, KX2_assign_15, KX2_assign_19, KX2_assign_25, lkC, s1C, s2C, dlC, kyC, Nat.beq, Nat.ble, rcd, rno, rsw, Nat.reduceAdd, Nat.reduceBEq, Nat.reduceDiv, List.drop, List.take, List.reverse, List.reverseAux, Int.toNat, Option.toList, List.append, List.cons_append, List.nil_append, zg272, zg286]
    intro a60 e60 ob60 fk60
    cases e60
    clear fk60 ob60
    generalize hs60 : pLC τ58 p1 286 v58 = s60
    rw [hp] at hs60
    rw [show v58 = Q58.1 by simp only [hv58]] at hs60
    have hG60 := AzC.h hG58 hBi hj hs60
    have hF60 : FrE [91, 92, 94, 217, 218, 285, 286, 287, 288, 901] σ s60 := FrE.pL2 hF58 (by decide) hs60
    have hSs_60 := SsC.fr hSs hF60 rfl
    have hPf_60 := PfC.fr hPf hF60 rfl
    have hTg_60 := TgC.fr hTg hF60 rfl
    have op_60 : SlC A B s60 z j p1 ∧ p1 < cnC s60 := by rw [hp]; exact hSs_60.1 j hj
    intro a61 e61 ob61
    cases e61
    have f62 : (fLC s60 p1 286) = Q58.1 := by rw [hp]; exact pL_g hs60
    try dsimp only [Qz_assign]
    have hfin : (asF N z T (f + 1)).2.2 j p2 g = (Q58.1, gaH j Q58.1 Q58.2) := by
      rw [as_st]
      unfold stA
      rw [if_pos (show lvS z j ≤ 20 by unfold lvS; omega), hQ58]
    rw [hfin]
    exact ⟨_, rfl, by simp only [f62], hG60⟩
  · have g56 := nleI (x := (fIC s52 p1 272)) (y := (Int32.ofInt 20)) h56
    refine hB _ _ _ _ _ (fun m63 hm63 => ?_)
    dsimp only [ucgo, ucwp, ucsC, uqC, uoC, ctC, rfd, KX2_assign, KX2_assign_0, KX2_assign_15, KX2_assign_19, KX2_assign_25, lkC, s1C, s2C, dlC, kyC, Nat.beq, Nat.ble, rcd, rno, rsw, Nat.reduceAdd, Nat.reduceBEq, Nat.reduceDiv, List.drop, List.take, List.reverse, List.reverseAux, Int.toNat, Option.toList, List.append, List.cons_append, List.nil_append, zg272, zg286]
    refine hB _ _ _ _ _ (fun m64 hm64 => ?_)
    dsimp only [ucgo, ucwp, ucsC, uqC, uoC, ctC, rfd, KX2_assign, KX2_assign_0, KX2_assign_15, KX2_assign_19, KX2_assign_25, lkC, s1C, s2C, dlC, kyC, Nat.beq, Nat.ble, rcd, rno, rsw, Nat.reduceAdd, Nat.reduceBEq, Nat.reduceDiv, List.drop, List.take, List.reverse, List.reverseAux, Int.toNat, Option.toList, List.append, List.cons_append, List.nil_append, zg272, zg286]
    intro a65 e65 ob65 fk65
    cases e65
    clear fk65 ob65
    generalize hs65 : pLC s52 p1 286 p2 = s65
    rw [hp] at hs65
    have hG65 := AzC.h hG52 hBi hj hs65
    have hF65 : FrE [91, 92, 94, 217, 218, 285, 286, 287, 288, 901] σ s65 := FrE.pL2 hF52 (by decide) hs65
    have hSs_65 := SsC.fr hSs hF65 rfl
    have hPf_65 := PfC.fr hPf hF65 rfl
    have hTg_65 := TgC.fr hTg hF65 rfl
    have op_65 : SlC A B s65 z j p1 ∧ p1 < cnC s65 := by rw [hp]; exact hSs_65.1 j hj
    intro a66 e66 ob66
    cases e66
    have f67 : (fLC s65 p1 286) = p2 := by rw [hp]; exact pL_g hs65
    try dsimp only [Qz_assign]
    have hfin : (asF N z T (f + 1)).2.2 j p2 g = (p2, gaH j p2 (gaB j p2 g)) := by
      rw [as_st]
      unfold stA
      rw [if_neg (show ¬ lvS z j ≤ 20 by unfold lvS; omega)]
    rw [hfin]
    exact ⟨_, rfl, by simp only [f67], hG65⟩
set_option maxHeartbeats 4000000 in
theorem pz_assignBody (y : (Int → Int) × (Nat → Nat) × (Nat → Nat) × (Nat → Nat) × (Nat → Nat) × ZS × TbT × MfT × Nat × Nat × GzA × Nat) : PbC KX2_assignBody [(29, TrP, EqC 29)] [(29, Uz_assign)] (fun As σ => Pz_assignBody y As σ ∧ cnC σ ≤ 1000000 ∧ ∃ w τ, uqC quL 31 As σ w τ) (Qz_assignBody y) := by
  obtain ⟨N, E, A, B, V, z, T, ms, nm, j, g, f⟩ := y
  rintro As σ ⟨⟨p1, p2, rfl, hSs, hPf, hTg, hwf, hj, hp, hG, hfu⟩, hcn, _, _, hQ⟩ K hB hW n_
  obtain ⟨hwf, hup, hBi, hsx⟩ := hwf
  have op : SlC A B σ z j p1 ∧ p1 < cnC σ := by rw [hp]; exact hSs.1 j hj
  change K n_ 0 [(0, .inr (.inr (some (E 4)))), (1, .inr (.inr (some p1))), (2, .inr (.inl p2))] [] σ
  refine hB _ _ _ _ _ (fun m51 hm51 => ?_)
  dsimp only [ucgo, ucwp, ucsC, uqC, uoC, ctC, rfd, KX2_assignBody, KX2_assignBody_0, KX2_assignBody_7, KX2_assignBody_11, KX2_assignBody_20, lkC, s1C, s2C, dlC, kyC, Nat.beq, Nat.ble, rcd, rno, rsw, Nat.reduceAdd, Nat.reduceBEq, Nat.reduceDiv, List.drop, List.take, List.reverse, List.reverseAux, Int.toNat, Option.toList, List.append, List.cons_append, List.nil_append, zg276]
  intro a52 e52 ob52
  cases e52
  have f53 : (fRC σ p1 276) = opA B (bjS z j) := op.1.2.2.1
  refine ⟨fun b54 h54 => ?_, fun h54 => ?_⟩
  · obtain ⟨j54, hj54, hb54⟩ := opA_j (f53.symm.trans h54)
    have hwx54 := (hwf j hj).1
    have hl54 : j54 < snM z := by omega
    have o55 := hSs.1 j54 hl54
    refine hB _ _ _ _ _ (fun m56 hm56 => ?_)
    dsimp only [ucgo, ucwp, ucsC, uqC, uoC, ctC, rfd, KX2_assignBody, KX2_assignBody_0, KX2_assignBody_7, KX2_assignBody_11, KX2_assignBody_20, lkC, s1C, s2C, dlC, kyC, Nat.beq, Nat.ble, rcd, rno, rsw, Nat.reduceAdd, Nat.reduceBEq, Nat.reduceDiv, List.drop, List.take, List.reverse, List.reverseAux, Int.toNat, Option.toList, List.append, List.cons_append, List.nil_append, zg276]
    intro a57 e57 ob57
    cases e57
    have f58 : (fRC σ p1 276) = some (B j54) := by rw [show (fRC σ p1 276) = opA B (bjS z j) from op.1.2.2.1, hj54, opA_k]
    intro w59 τ59 o59 q59
    rw [f58] at q59 o59
    obtain ⟨v59, rfl, hv59, hG59⟩ := q59 (N, E, A, B, V, z, T, ms, nm, j54, g, f) ⟨_, _, rfl, hSs, hPf, hTg, ⟨hwf, hup, hBi, hsx⟩, hl54, rfl, hG, (by have := hup j hj; have := hup j54 hl54; omega)⟩
    have hF59 : FrE [91, 92, 94, 217, 218, 285, 286, 287, 288, 901] σ τ59 := FrE.mo o59.2 rfl
    have hSs_59 := SsC.fr hSs hF59 rfl
    have hPf_59 := PfC.fr hPf hF59 rfl
    have hTg_59 := TgC.fr hTg hF59 rfl
    have op_59 : SlC A B τ59 z j p1 ∧ p1 < cnC τ59 := by rw [hp]; exact hSs_59.1 j hj
    have o55_59 := hSs_59.1 j54 hl54
    obtain ⟨Q59, hQ59⟩ : ∃ q, (asF N z T f).2.2 j54 p2 g = q := ⟨_, rfl⟩
    rw [hQ59] at hv59 hG59
    try dsimp only [Option.toList, List.cons_append, List.nil_append, s1C, s2C, dlC, kyC, Nat.beq, lkC, rcd, rno, rsw]
    refine hB _ _ _ _ _ (fun m60 hm60 => ?_)
    dsimp only [ucgo, ucwp, ucsC, uqC, uoC, ctC, rfd, KX2_assignBody, KX2_assignBody_0, KX2_assignBody_7, KX2_assignBody_11, KX2_assignBody_20, lkC, s1C, s2C, dlC, kyC, Nat.beq, Nat.ble, rcd, rno, rsw, Nat.reduceAdd, Nat.reduceBEq, Nat.reduceDiv, List.drop, List.take, List.reverse, List.reverseAux, Int.toNat, Option.toList, List.append, List.cons_append, List.nil_append, zg276]
    try dsimp only [Qz_assignBody]
    have hfin : bdA (asF N z T f) z j p2 g = (Q59.1, Q59.2) := by
      unfold bdA
      rw [if_neg (by omega), show (bjS z j).toNat = j54 by omega, hQ59]
    rw [hfin]
    exact ⟨_, rfl, by simp only [hv59], hG59⟩
  · have hx54 := opA_nn (f53.symm.trans h54)
    refine hB _ _ _ _ _ (fun m61 hm61 => ?_)
    dsimp only [ucgo, ucwp, ucsC, uqC, uoC, ctC, rfd, KX2_assignBody, KX2_assignBody_0, KX2_assignBody_7, KX2_assignBody_11, KX2_assignBody_20, lkC, s1C, s2C, dlC, kyC, Nat.beq, Nat.ble, rcd, rno, rsw, Nat.reduceAdd, Nat.reduceBEq, Nat.reduceDiv, List.drop, List.take, List.reverse, List.reverseAux, Int.toNat, Option.toList, List.append, List.cons_append, List.nil_append, zg276]
    refine hB _ _ _ _ _ (fun m62 hm62 => ?_)
    dsimp only [ucgo, ucwp, ucsC, uqC, uoC, ctC, rfd, KX2_assignBody, KX2_assignBody_0, KX2_assignBody_7, KX2_assignBody_11, KX2_assignBody_20, lkC, s1C, s2C, dlC, kyC, Nat.beq, Nat.ble, rcd, rno, rsw, Nat.reduceAdd, Nat.reduceBEq, Nat.reduceDiv, List.drop, List.take, List.reverse, List.reverseAux, Int.toNat, Option.toList, List.append, List.cons_append, List.nil_append, zg276]
    try dsimp only [Qz_assignBody]
    have hfin : bdA (asF N z T f) z j p2 g = (p2, g) := by
      unfold bdA
      rw [if_pos (by omega)]
    rw [hfin]
    exact ⟨_, rfl, rfl, hG⟩
set_option maxHeartbeats 4000000 in
theorem pz_assignRow (y : (Int → Int) × (Nat → Nat) × (Nat → Nat) × (Nat → Nat) × (Nat → Nat) × ZS × TbT × MfT × Nat × Int × GzA × Nat) : PbC KX2_assignRow [(29, TrP, EqC 29)] [(29, Uz_assign)] (fun As σ => Pz_assignRow y As σ ∧ cnC σ ≤ 1000000 ∧ ∃ w τ, uqC quL 30 As σ w τ) (Qz_assignRow y) := by
  obtain ⟨N, E, A, B, V, z, T, ms, nm, x, g, f⟩ := y
  rintro As σ ⟨⟨p1, p2, rfl, hSs, hPf, hTg, hwf, hG, hx, hx2, hfu⟩, hcn, _, _, hQ⟩ K hB hW n_
  obtain ⟨hwf, hup, hBi, hsx⟩ := hwf
  have L6 : ∀ (n : Nat) (s0 : CsC) (m9 : Int64) (x9 : Int) (g9 : GzA) (fu : Nat), (FrE [91, 92, 94, 217, 218, 285, 286, 287, 288, 901] σ s0) → (AzC E B s0 z g9) → (x9 < (snM z : Int)) → (0 ≤ x9 → 2 * (snM z : Int) + 1 ≤ (fu : Int) + 2 * x9) → ((asF N z T f).1 x p2 g = (asF N z T fu).1 x9 m9 g9) →  K n 6 [(0, .inr (.inr (some (E 4)))), (4, .inr (.inl m9)), (6, .inr (.inr (opA B x9)))] [] s0 := by
    intro n
    induction n using Nat.strongRecOn with
    | _ n ih =>
      intro s0 m9 x9 g9 fu hF0 hG9 hx9 hfl heq
      have hSs_0 := SsC.fr hSs hF0 rfl
      have hPf_0 := PfC.fr hPf hF0 rfl
      have hTg_0 := TgC.fr hTg hF0 rfl
      refine hB _ _ _ _ _ (fun m51 hm51 => ?_)
      dsimp only [ucgo, ucwp, ucsC, uqC, uoC, ctC, rfd, KX2_assignRow, KX2_assignRow_0, KX2_assignRow_6, KX2_assignRow_11, KX2_assignRow_31, lkC, s1C, s2C, dlC, kyC, Nat.beq, Nat.ble, rcd, rno, rsw, Nat.reduceAdd, Nat.reduceBEq, Nat.reduceDiv, List.drop, List.take, List.reverse, List.reverseAux, Int.toNat, Option.toList, List.append, List.cons_append, List.nil_append, zg275]
      refine ⟨fun h52 => ?_, fun b52 h52 => ?_⟩
      · have hx52 := opA_nn ((Eq.refl (opA B x9)).symm.trans h52)
        refine hB _ _ _ _ _ (fun m53 hm53 => ?_)
        dsimp only [ucgo, ucwp, ucsC, uqC, uoC, ctC, rfd, KX2_assignRow, KX2_assignRow_0, KX2_assignRow_6, KX2_assignRow_11, KX2_assignRow_31, lkC, s1C, s2C, dlC, kyC, Nat.beq, Nat.ble, rcd, rno, rsw, Nat.reduceAdd, Nat.reduceBEq, Nat.reduceDiv, List.drop, List.take, List.reverse, List.reverseAux, Int.toNat, Option.toList, List.append, List.cons_append, List.nil_append, zg275]
        try dsimp only [Qz_assignRow]
        have hfin : (asF N z T f).1 x p2 g = (m9, g9) := by
          exact heq.trans (as_r0 (by omega))
        rw [hfin]
        exact ⟨_, rfl, rfl, hG9⟩
      · obtain ⟨j52, hj52, hb52⟩ := opA_j ((Eq.refl (opA B x9)).symm.trans h52)
        have hl52 : j52 < snM z := by omega
        have o54_0 := hSs_0.1 j52 hl52
        have hf9 := hfl (by omega)
        obtain ⟨k9, rfl⟩ : ∃ k9, fu = k9 + 1 := ⟨fu - 1, by omega⟩
        rw [hj52] at heq hfl hx9
        refine hB _ _ _ _ _ (fun m55 hm55 => ?_)
        dsimp only [ucgo, ucwp, ucsC, uqC, uoC, ctC, rfd, KX2_assignRow, KX2_assignRow_0, KX2_assignRow_6, KX2_assignRow_11, KX2_assignRow_31, lkC, s1C, s2C, dlC, kyC, Nat.beq, Nat.ble, rcd, rno, rsw, Nat.reduceAdd, Nat.reduceBEq, Nat.reduceDiv, List.drop, List.take, List.reverse, List.reverseAux, Int.toNat, Option.toList, List.append, List.cons_append, List.nil_append, zg275]
        intro w56 τ56 o56 q56
        rw [(h52.trans (congrArg some hb52))] at q56 o56
        obtain ⟨v56, rfl, hv56, hG56⟩ := q56 (N, E, A, B, V, z, T, ms, nm, j52, g9, k9) ⟨_, _, rfl, hSs_0, hPf_0, hTg_0, ⟨hwf, hup, hBi, hsx⟩, hl52, rfl, hG9, (by have := hup j52 hl52; omega)⟩
        have hF56 : FrE [91, 92, 94, 217, 218, 285, 286, 287, 288, 901] σ τ56 := hF0.tr (o56.2.mo rfl)
        have hSs_56 := SsC.fr hSs hF56 rfl
        have hPf_56 := PfC.fr hPf hF56 rfl
        have hTg_56 := TgC.fr hTg hF56 rfl
        have o54_56 := hSs_56.1 j52 hl52
        obtain ⟨Q56, hQ56⟩ : ∃ q, (asF N z T k9).2.2 j52 m9 g9 = q := ⟨_, rfl⟩
        rw [hQ56] at hv56 hG56
        try dsimp only [Option.toList, List.cons_append, List.nil_append, s1C, s2C, dlC, kyC, Nat.beq, lkC, rcd, rno, rsw]
        intro a57 e57 ob57
        obtain rfl : B j52 = a57 := Option.some.inj ((h52.trans (congrArg some hb52)).symm.trans e57)
        have f58 : (fRC τ56 (B j52) 275) = opA B (njS z j52) := o54_56.1.2.1
        rw [f58]
        rw [hv56]
        exact hW _ 6 [(0, .inr (.inr (some (E 4)))), (4, .inr (.inl Q56.1)), (6, .inr (.inr (opA B (njS z j52))))] _ _ _ (List.forall_mem_cons.2 ⟨List.Mem.tail _ (List.Mem.tail _ (List.Mem.head _)), List.forall_mem_cons.2 ⟨List.Mem.tail _ (List.Mem.head _), List.forall_mem_cons.2 ⟨List.Mem.head _, fun _ h => absurd h List.not_mem_nil⟩⟩⟩) (ih _ (by omega) τ56 Q56.1 (njS z j52) Q56.2 k9 hF56 hG56 (by have := (hwf j52 hl52).1; omega) (fun q9 => by have := hup j52 hl52; omega) (heq.trans (by rw [as_r1, hQ56])))
  change K n_ 0 [(0, .inr (.inr (some (E 4)))), (1, .inr (.inr p1)), (2, .inr (.inl p2))] [] σ
  refine hB _ _ _ _ _ (fun m59 hm59 => ?_)
  dsimp only [ucgo, ucwp, ucsC, uqC, uoC, ctC, rfd, KX2_assignRow, KX2_assignRow_0, KX2_assignRow_6, KX2_assignRow_11, KX2_assignRow_31, lkC, s1C, s2C, dlC, kyC, Nat.beq, Nat.ble, rcd, rno, rsw, Nat.reduceAdd, Nat.reduceBEq, Nat.reduceDiv, List.drop, List.take, List.reverse, List.reverseAux, Int.toNat, Option.toList, List.append, List.cons_append, List.nil_append, zg275]
  rw [hx]
  exact hW _ 6 [(0, .inr (.inr (some (E 4)))), (4, .inr (.inl p2)), (6, .inr (.inr (opA B x)))] _ _ _ (List.forall_mem_cons.2 ⟨List.Mem.tail _ (List.Mem.tail _ (List.Mem.head _)), List.forall_mem_cons.2 ⟨List.Mem.tail _ (List.Mem.head _), List.forall_mem_cons.2 ⟨List.Mem.head _, fun _ h => absurd h List.not_mem_nil⟩⟩⟩) (L6 _ σ p2 x g f FrE.rf hG hx2 hfu rfl)
set_option maxHeartbeats 4000000 in
theorem pz_behindIf (y : (Int → Int) × (Nat → Nat) × (Nat → Nat) × (Nat → Nat) × (Nat → Nat) × ZS × TbT × MfT × Nat × Nat × GzA × Nat) : PbC KX2_behindIf [(39, TrP, EqC 39), (31, TrP, EqC 31), (29, TrP, EqC 29)] [(39, Uz_behindExp), (31, Uz_assignBody), (29, Uz_assign)] (fun As σ => Pz_behindIf y As σ ∧ cnC σ ≤ 1000000 ∧ ∃ w τ, uqC quL 35 As σ w τ) (Qz_behindIf y) := by
  obtain ⟨N, E, A, B, V, z, T, ms, nm, j, g, f⟩ := y
  rintro As σ ⟨⟨p1, p2, rfl, hSs, hPf, hTg, hwf, hj, hp, hG, hfu⟩, hcn, _, _, hQ⟩ K hB hW n_
  obtain ⟨hwf, hup, hBi, hsx⟩ := hwf
  have op : SlC A B σ z j p1 ∧ p1 < cnC σ := by rw [hp]; exact hSs.1 j hj
  change K n_ 0 [(0, .inr (.inr (some (E 4)))), (1, .inr (.inr (some p1))), (2, .inr (.inl p2))] [] σ
  refine hB _ _ _ _ _ (fun m51 hm51 => ?_)
  dsimp only [ucgo, ucwp, ucsC, uqC, uoC, ctC, rfd, KX2_behindIf, KX2_behindIf_0, KX2_behindIf_36, KX2_behindIf_41, KX2_behindIf_51, lkC, s1C, s2C, dlC, kyC, Nat.beq, Nat.ble, rcd, rno, rsw, Nat.reduceAdd, Nat.reduceBEq, Nat.reduceDiv, List.drop, List.take, List.reverse, List.reverseAux, Int.toNat, Option.toList, List.append, List.cons_append, List.nil_append, zg91, zg92, zg277, zg279]
  intro a52 e52 ob52
  cases e52
  have f53 : (fRC σ p1 279) = opA A (xjS z j) := op.1.2.2.2.2.2.1
  intro w54 τ54 o54 q54
  obtain ⟨v54, rfl, hv54, hWh54⟩ := q54 (N, E, A, B, V, z, T, ms, nm, g.2.2.2.2, xjS z j) ⟨_, _, rfl, hSs, hPf, hG.2, f53, (by have := (hwf j hj).2.1; omega), hsx⟩
  have hG54 := AzC.w hG o54.2 (fun j9 h9 => (hSs.1 j9 h9).2) hWh54
  have hv54 : v54 = (exB z T (xjS z j) p2 g).1 := hv54
  have hG54 : AzC E B τ54 z (exB z T (xjS z j) p2 g).2 := hG54
  have hF54 : FrE [91, 92, 94, 217, 218, 285, 286, 287, 288, 901] σ τ54 := FrE.mo o54.2 rfl
  have hSs_54 := SsC.fr hSs hF54 rfl
  have hPf_54 := PfC.fr hPf hF54 rfl
  have hTg_54 := TgC.fr hTg hF54 rfl
  have op_54 : SlC A B τ54 z j p1 ∧ p1 < cnC τ54 := by rw [hp]; exact hSs_54.1 j hj
  obtain ⟨Q54, hQ54⟩ : ∃ q, exB z T (xjS z j) p2 g = q := ⟨_, rfl⟩
  rw [hQ54] at hv54 hG54
  try dsimp only [Option.toList, List.cons_append, List.nil_append, s1C, s2C, dlC, kyC, Nat.beq, lkC, rcd, rno, rsw]
  intro a55 e55 ob55
  cases e55
  have f56 : (fLC τ54 (E 4) 92) = Q54.2.2.2.2.2.2.1 := hG54.2.1.2.1
  intro a57 e57 ob57
  cases e57
  have f58 : (fLC τ54 (E 4) 91) = Q54.2.2.2.2.2.1 := hG54.2.1.1
  intro w59 τ59 o59 q59
  obtain ⟨v59, rfl, hv59, hG59⟩ := q59 (N, E, A, B, V, z, T, ms, nm, j, Q54.2, f) ⟨_, _, rfl, hSs_54, hPf_54, hTg_54, ⟨hwf, hup, hBi, hsx⟩, hj, hp, hG54, (by have := hup j hj; omega)⟩
  rw [show (fLC τ54 (E 4) 91) = Q54.2.2.2.2.2.1 by simp only [f58]] at hv59 hG59
  have hF59 : FrE [91, 92, 94, 217, 218, 285, 286, 287, 288, 901] σ τ59 := hF54.tr (o59.2.mo rfl)
  have hSs_59 := SsC.fr hSs hF59 rfl
  have hPf_59 := PfC.fr hPf hF59 rfl
  have hTg_59 := TgC.fr hTg hF59 rfl
  have op_59 : SlC A B τ59 z j p1 ∧ p1 < cnC τ59 := by rw [hp]; exact hSs_59.1 j hj
  obtain ⟨Q59, hQ59⟩ : ∃ q, bdA (asF N z T f) z j Q54.2.2.2.2.2.1 Q54.2 = q := ⟨_, rfl⟩
  rw [hQ59] at hv59 hG59
  try dsimp only [Option.toList, List.cons_append, List.nil_append, s1C, s2C, dlC, kyC, Nat.beq, lkC, rcd, rno, rsw]
  intro a60 e60 ob60
  cases e60
  have f61 : (fRC τ59 p1 277) = opA B (ojS z j) := op_59.1.2.2.2.1
  refine ⟨fun b62 h62 => ?_, fun h62 => ?_⟩
  · obtain ⟨j62, hj62, hb62⟩ := opA_j (f61.symm.trans h62)
    have hwx62 := (hwf j hj).1
    have hl62 : j62 < snM z := by omega
    have o63_59 := hSs_59.1 j62 hl62
    refine hB _ _ _ _ _ (fun m64 hm64 => ?_)
    dsimp only [ucgo, ucwp, ucsC, uqC, uoC, ctC, rfd, KX2_behindIf, KX2_behindIf_0, KX2_behindIf_36, KX2_behindIf_41, KX2_behindIf_51, lkC, s1C, s2C, dlC, kyC, Nat.beq, Nat.ble, rcd, rno, rsw, Nat.reduceAdd, Nat.reduceBEq, Nat.reduceDiv, List.drop, List.take, List.reverse, List.reverseAux, Int.toNat, Option.toList, List.append, List.cons_append, List.nil_append, zg91, zg92, zg277, zg279]
    intro a65 e65 ob65
    cases e65
    have f66 : (fRC τ59 p1 277) = some (B j62) := by rw [show (fRC τ59 p1 277) = opA B (ojS z j) from op_59.1.2.2.2.1, hj62, opA_k]
    intro w67 τ67 o67 q67
    rw [f66] at q67 o67
    obtain ⟨v67, rfl, hv67, hG67⟩ := q67 (N, E, A, B, V, z, T, ms, nm, j62, Q59.2, f) ⟨_, _, rfl, hSs_59, hPf_59, hTg_59, ⟨hwf, hup, hBi, hsx⟩, hl62, rfl, hG59, (by have := hup j hj; have := hup j62 hl62; omega)⟩
    rw [show (fLC τ54 (E 4) 92) = Q54.2.2.2.2.2.2.1 by simp only [f56]] at hv67 hG67
    have hF67 : FrE [91, 92, 94, 217, 218, 285, 286, 287, 288, 901] σ τ67 := hF59.tr (o67.2.mo rfl)
    have hSs_67 := SsC.fr hSs hF67 rfl
    have hPf_67 := PfC.fr hPf hF67 rfl
    have hTg_67 := TgC.fr hTg hF67 rfl
    have op_67 : SlC A B τ67 z j p1 ∧ p1 < cnC τ67 := by rw [hp]; exact hSs_67.1 j hj
    have o63_67 := hSs_67.1 j62 hl62
    obtain ⟨Q67, hQ67⟩ : ∃ q, (asF N z T f).2.2 j62 Q54.2.2.2.2.2.2.1 Q59.2 = q := ⟨_, rfl⟩
    rw [hQ67] at hv67 hG67
    try dsimp only [Option.toList, List.cons_append, List.nil_append, s1C, s2C, dlC, kyC, Nat.beq, lkC, rcd, rno, rsw]
    refine hB _ _ _ _ _ (fun m68 hm68 => ?_)
    dsimp only [ucgo, ucwp, ucsC, uqC, uoC, ctC, rfd, KX2_behindIf, KX2_behindIf_0, KX2_behindIf_36, KX2_behindIf_41, KX2_behindIf_51, lkC, s1C, s2C, dlC, kyC, Nat.beq, Nat.ble, rcd, rno, rsw, Nat.reduceAdd, Nat.reduceBEq, Nat.reduceDiv, List.drop, List.take, List.reverse, List.reverseAux, Int.toNat, Option.toList, List.append, List.cons_append, List.nil_append, zg91, zg92, zg277, zg279]
    try dsimp only [Qz_behindIf]
    have hfin : ifA (asF N z T f) z T j p2 g = ((Q59.1 &&& Q67.1), Q67.2) := by
      unfold ifA
      rw [hQ54]
      try dsimp only
      rw [hQ59]
      try dsimp only
      rw [if_neg (by omega), show (ojS z j).toNat = j62 by omega, hQ67]
    rw [hfin]
    exact ⟨_, rfl, by simp only [hv59, hv67], hG67⟩
  · have hx62 := opA_nn (f61.symm.trans h62)
    refine hB _ _ _ _ _ (fun m69 hm69 => ?_)
    dsimp only [ucgo, ucwp, ucsC, uqC, uoC, ctC, rfd, KX2_behindIf, KX2_behindIf_0, KX2_behindIf_36, KX2_behindIf_41, KX2_behindIf_51, lkC, s1C, s2C, dlC, kyC, Nat.beq, Nat.ble, rcd, rno, rsw, Nat.reduceAdd, Nat.reduceBEq, Nat.reduceDiv, List.drop, List.take, List.reverse, List.reverseAux, Int.toNat, Option.toList, List.append, List.cons_append, List.nil_append, zg91, zg92, zg277, zg279]
    refine hB _ _ _ _ _ (fun m70 hm70 => ?_)
    dsimp only [ucgo, ucwp, ucsC, uqC, uoC, ctC, rfd, KX2_behindIf, KX2_behindIf_0, KX2_behindIf_36, KX2_behindIf_41, KX2_behindIf_51, lkC, s1C, s2C, dlC, kyC, Nat.beq, Nat.ble, rcd, rno, rsw, Nat.reduceAdd, Nat.reduceBEq, Nat.reduceDiv, List.drop, List.take, List.reverse, List.reverseAux, Int.toNat, Option.toList, List.append, List.cons_append, List.nil_append, zg91, zg92, zg277, zg279]
    try dsimp only [Qz_behindIf]
    have hfin : ifA (asF N z T f) z T j p2 g = ((Q59.1 &&& Q54.2.2.2.2.2.2.1), Q59.2) := by
      unfold ifA
      rw [hQ54]
      try dsimp only
      rw [hQ59]
      try dsimp only
      rw [if_pos (by omega)]
    rw [hfin]
    exact ⟨_, rfl, by simp only [f56, hv59], hG59⟩
set_option maxHeartbeats 4000000 in
theorem pz_behindLoop (y : (Int → Int) × (Nat → Nat) × (Nat → Nat) × (Nat → Nat) × (Nat → Nat) × ZS × TbT × MfT × Nat × Nat × GzA × Nat) : PbC KX2_behindLoop [(39, TrP, EqC 39), (31, TrP, EqC 31), (30, TrP, EqC 30)] [(39, Uz_behindExp), (31, Uz_assignBody), (30, Uz_assignRow)] (fun As σ => Pz_behindLoop y As σ ∧ cnC σ ≤ 1000000 ∧ ∃ w τ, uqC quL 36 As σ w τ) (Qz_behindLoop y) := by
  obtain ⟨N, E, A, B, V, z, T, ms, nm, j, g, f⟩ := y
  rintro As σ ⟨⟨p1, p2, rfl, hSs, hPf, hTg, hwf, hj, hp, hG, hfu, hkl⟩, hcn, _, _, hQ⟩ K hB hW n_
  obtain ⟨hwf, hup, hBi, hsx⟩ := hwf
  have op : SlC A B σ z j p1 ∧ p1 < cnC σ := by rw [hp]; exact hSs.1 j hj
  change K n_ 0 [(0, .inr (.inr (some (E 4)))), (1, .inr (.inr (some p1))), (2, .inr (.inl p2))] [] σ
  refine hB _ _ _ _ _ (fun m51 hm51 => ?_)
  dsimp only [ucgo, ucwp, ucsC, uqC, uoC, ctC, rfd, KX2_behindLoop, KX2_behindLoop_0, KX2_behindLoop_9, KX2_behindLoop_43, KX2_behindLoop_52, KX2_behindLoop_64, KX2_behindLoop_65, KX2_behindLoop_85, KX2_behindLoop_91, KX2_behindLoop_95, KX2_behindLoop_117, KX2_behindLoop_133, lkC, s1C, s2C, dlC, kyC, Nat.beq, Nat.ble, rcd, rno, rsw, Nat.reduceAdd, Nat.reduceBEq, Nat.reduceDiv, List.drop, List.take, List.reverse, List.reverseAux, Int.toNat, Option.toList, List.append, List.cons_append, List.nil_append, zg91, zg92, zg270, zg277, zg278, zg279, zg287, zg288]
  intro a52 e52 ob52
  cases e52
  have f53 : (fIC σ p1 270).toInt = kjS z j := op.1.1.1
  have c54 : (Int32.ofInt 59).toInt = 59 := by decide
  refine ⟨fun h55 => ?_, fun h55 => ?_⟩
  · have g55 := (neI (x := (fIC σ p1 270)) (y := (Int32.ofInt 59)) h55 : ¬ ((fIC σ p1 270) : Int32).toInt = ((Int32.ofInt 59) : Int32).toInt)
    refine hB _ _ _ _ _ (fun m56 hm56 => ?_)
    dsimp only [ucgo, ucwp, ucsC, uqC, uoC, ctC, rfd, KX2_behindLoop, KX2_behindLoop_0, KX2_behindLoop_9, KX2_behindLoop_43, KX2_behindLoop_52, KX2_behindLoop_64, KX2_behindLoop_65, KX2_behindLoop_85, KX2_behindLoop_91, KX2_behindLoop_95, KX2_behindLoop_117, KX2_behindLoop_133, lkC, s1C, s2C, dlC, kyC, Nat.beq, Nat.ble, rcd, rno, rsw, Nat.reduceAdd, Nat.reduceBEq, Nat.reduceDiv, List.drop, List.take, List.reverse, List.reverseAux, Int.toNat, Option.toList, List.append, List.cons_append, List.nil_append, zg91, zg92, zg270, zg277, zg278, zg279, zg287, zg288]
    intro a57 e57 ob57
    cases e57
    have f58 : (fIC σ p1 270).toInt = kjS z j := op.1.1.1
    have c59 : (Int32.ofInt 60).toInt = 60 := by decide
    refine ⟨fun h60 => ?_, fun h60 => ?_⟩
    · have g60 := (neI (x := (fIC σ p1 270)) (y := (Int32.ofInt 60)) h60 : ¬ ((fIC σ p1 270) : Int32).toInt = ((Int32.ofInt 60) : Int32).toInt)
      refine hB _ _ _ _ _ (fun m61 hm61 => ?_)
      dsimp only [ucgo, ucwp, ucsC, uqC, uoC, ctC, rfd, KX2_behindLoop, KX2_behindLoop_0, KX2_behindLoop_9, KX2_behindLoop_43, KX2_behindLoop_52, KX2_behindLoop_64, KX2_behindLoop_65, KX2_behindLoop_85, KX2_behindLoop_91, KX2_behindLoop_95, KX2_behindLoop_117, KX2_behindLoop_133, lkC, s1C, s2C, dlC, kyC, Nat.beq, Nat.ble, rcd, rno, rsw, Nat.reduceAdd, Nat.reduceBEq, Nat.reduceDiv, List.drop, List.take, List.reverse, List.reverseAux, Int.toNat, Option.toList, List.append, List.cons_append, List.nil_append, zg91, zg92, zg270, zg277, zg278, zg279, zg287, zg288]
      refine hB _ _ _ _ _ (fun m62 hm62 => ?_)
      dsimp only [ucgo, ucwp, ucsC, uqC, uoC, ctC, rfd, KX2_behindLoop, KX2_behindLoop_0, KX2_behindLoop_9, KX2_behindLoop_43, KX2_behindLoop_52, KX2_behindLoop_64, KX2_behindLoop_65, KX2_behindLoop_85, KX2_behindLoop_91, KX2_behindLoop_95, KX2_behindLoop_117, KX2_behindLoop_133, lkC, s1C, s2C, dlC, kyC, Nat.beq, Nat.ble, rcd, rno, rsw, Nat.reduceAdd, Nat.reduceBEq, Nat.reduceDiv, List.drop, List.take, List.reverse, List.reverseAux, Int.toNat, Option.toList, List.append, List.cons_append, List.nil_append, zg91, zg92, zg270, zg277, zg278, zg279, zg287, zg288]
      intro a63 e63 ob63
      cases e63
      have f64 : (fRC σ p1 279) = opA A (xjS z j) := op.1.2.2.2.2.2.1
      intro w65 τ65 o65 q65
      obtain ⟨v65, rfl, hv65, hWh65⟩ := q65 (N, E, A, B, V, z, T, ms, nm, g.2.2.2.2, xjS z j) ⟨_, _, rfl, hSs, hPf, hG.2, f64, (by have := (hwf j hj).2.1; omega), hsx⟩
      have hG65 := AzC.w hG o65.2 (fun j9 h9 => (hSs.1 j9 h9).2) hWh65
      have hv65 : v65 = (exB z T (xjS z j) p2 g).1 := hv65
      have hG65 : AzC E B τ65 z (exB z T (xjS z j) p2 g).2 := hG65
      have hF65 : FrE [91, 92, 94, 217, 218, 285, 286, 287, 288, 901] σ τ65 := FrE.mo o65.2 rfl
      have hSs_65 := SsC.fr hSs hF65 rfl
      have hPf_65 := PfC.fr hPf hF65 rfl
      have hTg_65 := TgC.fr hTg hF65 rfl
      have op_65 : SlC A B τ65 z j p1 ∧ p1 < cnC τ65 := by rw [hp]; exact hSs_65.1 j hj
      obtain ⟨Q65, hQ65⟩ : ∃ q, exB z T (xjS z j) p2 g = q := ⟨_, rfl⟩
      rw [hQ65] at hv65 hG65
      try dsimp only [Option.toList, List.cons_append, List.nil_append, s1C, s2C, dlC, kyC, Nat.beq, lkC, rcd, rno, rsw]
      intro a66 e66 ob66
      cases e66
      have f67 : (fRC τ65 p1 279) = opA A (xjS z j) := op_65.1.2.2.2.2.2.1
      refine ⟨fun b68 h68 => ?_, fun h68 => ?_⟩
      · obtain ⟨kx, hkx, -⟩ := opA_j (f67.symm.trans h68)
        refine hB _ _ _ _ _ (fun m69 hm69 => ?_)
        dsimp only [ucgo, ucwp, ucsC, uqC, uoC, ctC, rfd, KX2_behindLoop, KX2_behindLoop_0, KX2_behindLoop_9, KX2_behindLoop_43, KX2_behindLoop_52, KX2_behindLoop_64, KX2_behindLoop_65, KX2_behindLoop_85, KX2_behindLoop_91, KX2_behindLoop_95, KX2_behindLoop_117, KX2_behindLoop_133, lkC, s1C, s2C, dlC, kyC, Nat.beq, Nat.ble, rcd, rno, rsw, Nat.reduceAdd, Nat.reduceBEq, Nat.reduceDiv, List.drop, List.take, List.reverse, List.reverseAux, Int.toNat, Option.toList, List.append, List.cons_append, List.nil_append, zg91, zg92, zg270, zg277, zg278, zg279, zg287, zg288]
        intro a70 e70 ob70
        cases e70
        have f71 : (fLC τ65 (E 4) 92) = Q65.2.2.2.2.2.2.1 := hG65.2.1.2.1
        refine hB _ _ _ _ _ (fun m72 hm72 => ?_)
        dsimp only [ucgo, ucwp, ucsC, uqC, uoC, ctC, rfd, KX2_behindLoop, KX2_behindLoop_0, KX2_behindLoop_9, KX2_behindLoop_43, KX2_behindLoop_52, KX2_behindLoop_64, KX2_behindLoop_65, KX2_behindLoop_85, KX2_behindLoop_91, KX2_behindLoop_95, KX2_behindLoop_117, KX2_behindLoop_133, lkC, s1C, s2C, dlC, kyC, Nat.beq, Nat.ble, rcd, rno, rsw, Nat.reduceAdd, Nat.reduceBEq, Nat.reduceDiv, List.drop, List.take, List.reverse, List.reverseAux, Int.toNat, Option.toList, List.append, List.cons_append, List.nil_append, zg91, zg92, zg270, zg277, zg278, zg279, zg287, zg288]
        intro a73 e73 ob73
        cases e73
        have f74 : (fLC τ65 (E 4) 91) = Q65.2.2.2.2.2.1 := hG65.2.1.1
        intro w75 τ75 o75 q75
        obtain ⟨v75, rfl, hv75, hG75⟩ := q75 (N, E, A, B, V, z, T, ms, nm, j, Q65.2, f) ⟨_, _, rfl, hSs_65, hPf_65, hTg_65, ⟨hwf, hup, hBi, hsx⟩, hj, hp, hG65, (by have := hup j hj; omega)⟩
        rw [show (fLC τ65 (E 4) 91) = Q65.2.2.2.2.2.1 by simp only [f74]] at hv75 hG75
        have hF75 : FrE [91, 92, 94, 217, 218, 285, 286, 287, 288, 901] σ τ75 := hF65.tr (o75.2.mo rfl)
        have hSs_75 := SsC.fr hSs hF75 rfl
        have hPf_75 := PfC.fr hPf hF75 rfl
        have hTg_75 := TgC.fr hTg hF75 rfl
        have op_75 : SlC A B τ75 z j p1 ∧ p1 < cnC τ75 := by rw [hp]; exact hSs_75.1 j hj
        obtain ⟨Q75, hQ75⟩ : ∃ q, bdA (asF N z T f) z j Q65.2.2.2.2.2.1 Q65.2 = q := ⟨_, rfl⟩
        rw [hQ75] at hv75 hG75
        try dsimp only [Option.toList, List.cons_append, List.nil_append, s1C, s2C, dlC, kyC, Nat.beq, lkC, rcd, rno, rsw]
        intro a76 e76 ob76
        cases e76
        have f77 : (fIC τ75 p1 270).toInt = kjS z j := op_75.1.1.1
        have c78 : (Int32.ofInt 60).toInt = 60 := by decide
        refine ⟨fun h79 => ?_, fun h79 => ?_⟩
        · have g79 := (neI (x := (fIC τ75 p1 270)) (y := (Int32.ofInt 60)) h79 : ¬ ((fIC τ75 p1 270) : Int32).toInt = ((Int32.ofInt 60) : Int32).toInt)
          refine hB _ _ _ _ _ (fun m80 hm80 => ?_)
          dsimp only [ucgo, ucwp, ucsC, uqC, uoC, ctC, rfd, KX2_behindLoop, KX2_behindLoop_0, KX2_behindLoop_9, KX2_behindLoop_43, KX2_behindLoop_52, KX2_behindLoop_64, KX2_behindLoop_65, KX2_behindLoop_85, KX2_behindLoop_91, KX2_behindLoop_95, KX2_behindLoop_117, KX2_behindLoop_133, lkC, s1C, s2C, dlC, kyC, Nat.beq, Nat.ble, rcd, rno, rsw, Nat.reduceAdd, Nat.reduceBEq, Nat.reduceDiv, List.drop, List.take, List.reverse, List.reverseAux, Int.toNat, Option.toList, List.append, List.cons_append, List.nil_append, zg91, zg92, zg270, zg277, zg278, zg279, zg287, zg288]
          intro a81 e81 ob81
          cases e81
          have f82 : (fLC τ75 p1 287) = Q75.2.2.2.1 j := by rw [hp]; exact (hG75.1 j hj).2.2.1
          try dsimp only [Qz_behindLoop]
          have hfin : lpA (asF N z T f) z T j p2 g = ((Q65.2.2.2.2.2.2.1 &&& (Q75.2.2.2.1 j)), Q75.2) := by
            unfold lpA
            rw [if_neg (by omega)]
            unfold whA
            rw [if_neg (show ¬ kjS z j = 60 by omega)]
            try dsimp only
            rw [hQ65]
            try dsimp only
            rw [hQ75]
            try dsimp only
            rw [if_neg (show ¬ kjS z j = 60 by omega)]
            try dsimp only
            rw [if_neg (show ¬ xjS z j < 0 by omega)]
            try rfl
          rw [hfin]
          exact ⟨_, rfl, by simp only [f71, f82], hG75⟩
        · have g79 := (eqI (x := (fIC τ75 p1 270)) (y := (Int32.ofInt 60)) h79 : ((fIC τ75 p1 270) : Int32).toInt = ((Int32.ofInt 60) : Int32).toInt)
          exfalso
          omega
      · have hxn := opA_nn (f67.symm.trans h68)
        refine hB _ _ _ _ _ (fun m83 hm83 => ?_)
        dsimp only [ucgo, ucwp, ucsC, uqC, uoC, ctC, rfd, KX2_behindLoop, KX2_behindLoop_0, KX2_behindLoop_9, KX2_behindLoop_43, KX2_behindLoop_52, KX2_behindLoop_64, KX2_behindLoop_65, KX2_behindLoop_85, KX2_behindLoop_91, KX2_behindLoop_95, KX2_behindLoop_117, KX2_behindLoop_133, lkC, s1C, s2C, dlC, kyC, Nat.beq, Nat.ble, rcd, rno, rsw, Nat.reduceAdd, Nat.reduceBEq, Nat.reduceDiv, List.drop, List.take, List.reverse, List.reverseAux, Int.toNat, Option.toList, List.append, List.cons_append, List.nil_append, zg91, zg92, zg270, zg277, zg278, zg279, zg287, zg288]
        refine hB _ _ _ _ _ (fun m84 hm84 => ?_)
        dsimp only [ucgo, ucwp, ucsC, uqC, uoC, ctC, rfd, KX2_behindLoop, KX2_behindLoop_0, KX2_behindLoop_9, KX2_behindLoop_43, KX2_behindLoop_52, KX2_behindLoop_64, KX2_behindLoop_65, KX2_behindLoop_85, KX2_behindLoop_91, KX2_behindLoop_95, KX2_behindLoop_117, KX2_behindLoop_133, lkC, s1C, s2C, dlC, kyC, Nat.beq, Nat.ble, rcd, rno, rsw, Nat.reduceAdd, Nat.reduceBEq, Nat.reduceDiv, List.drop, List.take, List.reverse, List.reverseAux, Int.toNat, Option.toList, List.append, List.cons_append, List.nil_append, zg91, zg92, zg270, zg277, zg278, zg279, zg287, zg288]
        intro a85 e85 ob85
        cases e85
        have f86 : (fLC τ65 (E 4) 91) = Q65.2.2.2.2.2.1 := hG65.2.1.1
        intro w87 τ87 o87 q87
        obtain ⟨v87, rfl, hv87, hG87⟩ := q87 (N, E, A, B, V, z, T, ms, nm, j, Q65.2, f) ⟨_, _, rfl, hSs_65, hPf_65, hTg_65, ⟨hwf, hup, hBi, hsx⟩, hj, hp, hG65, (by have := hup j hj; omega)⟩
        rw [show (fLC τ65 (E 4) 91) = Q65.2.2.2.2.2.1 by simp only [f86]] at hv87 hG87
        have hF87 : FrE [91, 92, 94, 217, 218, 285, 286, 287, 288, 901] σ τ87 := hF65.tr (o87.2.mo rfl)
        have hSs_87 := SsC.fr hSs hF87 rfl
        have hPf_87 := PfC.fr hPf hF87 rfl
        have hTg_87 := TgC.fr hTg hF87 rfl
        have op_87 : SlC A B τ87 z j p1 ∧ p1 < cnC τ87 := by rw [hp]; exact hSs_87.1 j hj
        obtain ⟨Q87, hQ87⟩ : ∃ q, bdA (asF N z T f) z j Q65.2.2.2.2.2.1 Q65.2 = q := ⟨_, rfl⟩
        rw [hQ87] at hv87 hG87
        try dsimp only [Option.toList, List.cons_append, List.nil_append, s1C, s2C, dlC, kyC, Nat.beq, lkC, rcd, rno, rsw]
        intro a88 e88 ob88
        cases e88
        have f89 : (fIC τ87 p1 270).toInt = kjS z j := op_87.1.1.1
        have c90 : (Int32.ofInt 60).toInt = 60 := by decide
        refine ⟨fun h91 => ?_, fun h91 => ?_⟩
        · have g91 := (neI (x := (fIC τ87 p1 270)) (y := (Int32.ofInt 60)) h91 : ¬ ((fIC τ87 p1 270) : Int32).toInt = ((Int32.ofInt 60) : Int32).toInt)
          refine hB _ _ _ _ _ (fun m92 hm92 => ?_)
          dsimp only [ucgo, ucwp, ucsC, uqC, uoC, ctC, rfd, KX2_behindLoop, KX2_behindLoop_0, KX2_behindLoop_9, KX2_behindLoop_43, KX2_behindLoop_52, KX2_behindLoop_64, KX2_behindLoop_65, KX2_behindLoop_85, KX2_behindLoop_91, KX2_behindLoop_95, KX2_behindLoop_117, KX2_behindLoop_133, lkC, s1C, s2C, dlC, kyC, Nat.beq, Nat.ble, rcd, rno, rsw, Nat.reduceAdd, Nat.reduceBEq, Nat.reduceDiv, List.drop, List.take, List.reverse, List.reverseAux, Int.toNat, Option.toList, List.append, List.cons_append, List.nil_append, zg91, zg92, zg270, zg277, zg278, zg279, zg287, zg288]
          intro a93 e93 ob93
          cases e93
          have f94 : (fLC τ87 p1 287) = Q87.2.2.2.1 j := by rw [hp]; exact (hG87.1 j hj).2.2.1
          try dsimp only [Qz_behindLoop]
          have hfin : lpA (asF N z T f) z T j p2 g = (((Int64.ofInt (-1)) &&& (Q87.2.2.2.1 j)), Q87.2) := by
            unfold lpA
            rw [if_neg (by omega)]
            unfold whA
            rw [if_neg (show ¬ kjS z j = 60 by omega)]
            try dsimp only
            rw [hQ65]
            try dsimp only
            rw [hQ87]
            try dsimp only
            rw [if_neg (show ¬ kjS z j = 60 by omega)]
            try dsimp only
            rw [if_pos (show xjS z j < 0 by omega)]
            try rfl
          rw [hfin]
          exact ⟨_, rfl, by simp only [f94], hG87⟩
        · have g91 := (eqI (x := (fIC τ87 p1 270)) (y := (Int32.ofInt 60)) h91 : ((fIC τ87 p1 270) : Int32).toInt = ((Int32.ofInt 60) : Int32).toInt)
          exfalso
          omega
    · have g60 := (eqI (x := (fIC σ p1 270)) (y := (Int32.ofInt 60)) h60 : ((fIC σ p1 270) : Int32).toInt = ((Int32.ofInt 60) : Int32).toInt)
      refine hB _ _ _ _ _ (fun m95 hm95 => ?_)
      dsimp only [ucgo, ucwp, ucsC, uqC, uoC, ctC, rfd, KX2_behindLoop, KX2_behindLoop_0, KX2_behindLoop_9, KX2_behindLoop_43, KX2_behindLoop_52, KX2_behindLoop_64, KX2_behindLoop_65, KX2_behindLoop_85, KX2_behindLoop_91, KX2_behindLoop_95, KX2_behindLoop_117, KX2_behindLoop_133, lkC, s1C, s2C, dlC, kyC, Nat.beq, Nat.ble, rcd, rno, rsw, Nat.reduceAdd, Nat.reduceBEq, Nat.reduceDiv, List.drop, List.take, List.reverse, List.reverseAux, Int.toNat, Option.toList, List.append, List.cons_append, List.nil_append, zg91, zg92, zg270, zg277, zg278, zg279, zg287, zg288]
      intro a96 e96 ob96
      cases e96
      have f97 : (fRC σ p1 277) = opA B (ojS z j) := op.1.2.2.2.1
      intro w98 τ98 o98 q98
      obtain ⟨v98, rfl, hv98, hG98⟩ := q98 (N, E, A, B, V, z, T, ms, nm, ojS z j, g, f) ⟨_, _, rfl, hSs, hPf, hTg, ⟨hwf, hup, hBi, hsx⟩, hG, f97, (by have := (hwf j hj).1; omega), (fun q9 => by have := hup j hj; omega)⟩
      have hF98 : FrE [91, 92, 94, 217, 218, 285, 286, 287, 288, 901] σ τ98 := FrE.mo o98.2 rfl
      have hSs_98 := SsC.fr hSs hF98 rfl
      have hPf_98 := PfC.fr hPf hF98 rfl
      have hTg_98 := TgC.fr hTg hF98 rfl
      have op_98 : SlC A B τ98 z j p1 ∧ p1 < cnC τ98 := by rw [hp]; exact hSs_98.1 j hj
      obtain ⟨Q98, hQ98⟩ : ∃ q, (asF N z T f).1 (ojS z j) p2 g = q := ⟨_, rfl⟩
      rw [hQ98] at hv98 hG98
      try dsimp only [Option.toList, List.cons_append, List.nil_append, s1C, s2C, dlC, kyC, Nat.beq, lkC, rcd, rno, rsw]
      refine hB _ _ _ _ _ (fun m99 hm99 => ?_)
      dsimp only [ucgo, ucwp, ucsC, uqC, uoC, ctC, rfd, KX2_behindLoop, KX2_behindLoop_0, KX2_behindLoop_9, KX2_behindLoop_43, KX2_behindLoop_52, KX2_behindLoop_64, KX2_behindLoop_65, KX2_behindLoop_85, KX2_behindLoop_91, KX2_behindLoop_95, KX2_behindLoop_117, KX2_behindLoop_133, lkC, s1C, s2C, dlC, kyC, Nat.beq, Nat.ble, rcd, rno, rsw, Nat.reduceAdd, Nat.reduceBEq, Nat.reduceDiv, List.drop, List.take, List.reverse, List.reverseAux, Int.toNat, Option.toList, List.append, List.cons_append, List.nil_append, zg91, zg92, zg270, zg277, zg278, zg279, zg287, zg288]
      intro a100 e100 ob100
      cases e100
      have f101 : (fRC τ98 p1 279) = opA A (xjS z j) := op_98.1.2.2.2.2.2.1
      intro w102 τ102 o102 q102
      obtain ⟨v102, rfl, hv102, hWh102⟩ := q102 (N, E, A, B, V, z, T, ms, nm, Q98.2.2.2.2.2, xjS z j) ⟨_, _, rfl, hSs_98, hPf_98, hG98.2, f101, (by have := (hwf j hj).2.1; omega), hsx⟩
      rw [show v98 = Q98.1 by simp only [hv98]] at hv102 hWh102
      have hG102 := AzC.w hG98 o102.2 (fun j9 h9 => (hSs_98.1 j9 h9).2) hWh102
      have hv102 : v102 = (exB z T (xjS z j) Q98.1 Q98.2).1 := hv102
      have hG102 : AzC E B τ102 z (exB z T (xjS z j) Q98.1 Q98.2).2 := hG102
      have hF102 : FrE [91, 92, 94, 217, 218, 285, 286, 287, 288, 901] σ τ102 := hF98.tr (o102.2.mo rfl)
      have hSs_102 := SsC.fr hSs hF102 rfl
      have hPf_102 := PfC.fr hPf hF102 rfl
      have hTg_102 := TgC.fr hTg hF102 rfl
      have op_102 : SlC A B τ102 z j p1 ∧ p1 < cnC τ102 := by rw [hp]; exact hSs_102.1 j hj
      obtain ⟨Q102, hQ102⟩ : ∃ q, exB z T (xjS z j) Q98.1 Q98.2 = q := ⟨_, rfl⟩
      rw [hQ102] at hv102 hG102
      try dsimp only [Option.toList, List.cons_append, List.nil_append, s1C, s2C, dlC, kyC, Nat.beq, lkC, rcd, rno, rsw]
      intro a103 e103 ob103
      cases e103
      have f104 : (fRC τ102 p1 279) = opA A (xjS z j) := op_102.1.2.2.2.2.2.1
      refine ⟨fun b105 h105 => ?_, fun h105 => ?_⟩
      · obtain ⟨kx, hkx, -⟩ := opA_j (f104.symm.trans h105)
        refine hB _ _ _ _ _ (fun m106 hm106 => ?_)
        dsimp only [ucgo, ucwp, ucsC, uqC, uoC, ctC, rfd, KX2_behindLoop, KX2_behindLoop_0, KX2_behindLoop_9, KX2_behindLoop_43, KX2_behindLoop_52, KX2_behindLoop_64, KX2_behindLoop_65, KX2_behindLoop_85, KX2_behindLoop_91, KX2_behindLoop_95, KX2_behindLoop_117, KX2_behindLoop_133, lkC, s1C, s2C, dlC, kyC, Nat.beq, Nat.ble, rcd, rno, rsw, Nat.reduceAdd, Nat.reduceBEq, Nat.reduceDiv, List.drop, List.take, List.reverse, List.reverseAux, Int.toNat, Option.toList, List.append, List.cons_append, List.nil_append, zg91, zg92, zg270, zg277, zg278, zg279, zg287, zg288]
        intro a107 e107 ob107
        cases e107
        have f108 : (fLC τ102 (E 4) 92) = Q102.2.2.2.2.2.2.1 := hG102.2.1.2.1
        refine hB _ _ _ _ _ (fun m109 hm109 => ?_)
        dsimp only [ucgo, ucwp, ucsC, uqC, uoC, ctC, rfd, KX2_behindLoop, KX2_behindLoop_0, KX2_behindLoop_9, KX2_behindLoop_43, KX2_behindLoop_52, KX2_behindLoop_64, KX2_behindLoop_65, KX2_behindLoop_85, KX2_behindLoop_91, KX2_behindLoop_95, KX2_behindLoop_117, KX2_behindLoop_133, lkC, s1C, s2C, dlC, kyC, Nat.beq, Nat.ble, rcd, rno, rsw, Nat.reduceAdd, Nat.reduceBEq, Nat.reduceDiv, List.drop, List.take, List.reverse, List.reverseAux, Int.toNat, Option.toList, List.append, List.cons_append, List.nil_append, zg91, zg92, zg270, zg277, zg278, zg279, zg287, zg288]
        intro a110 e110 ob110
        cases e110
        have f111 : (fLC τ102 (E 4) 91) = Q102.2.2.2.2.2.1 := hG102.2.1.1
        intro w112 τ112 o112 q112
        obtain ⟨v112, rfl, hv112, hG112⟩ := q112 (N, E, A, B, V, z, T, ms, nm, j, Q102.2, f) ⟨_, _, rfl, hSs_102, hPf_102, hTg_102, ⟨hwf, hup, hBi, hsx⟩, hj, hp, hG102, (by have := hup j hj; omega)⟩
        rw [show (fLC τ102 (E 4) 91) = Q102.2.2.2.2.2.1 by simp only [f111]] at hv112 hG112
        have hF112 : FrE [91, 92, 94, 217, 218, 285, 286, 287, 288, 901] σ τ112 := hF102.tr (o112.2.mo rfl)
        have hSs_112 := SsC.fr hSs hF112 rfl
        have hPf_112 := PfC.fr hPf hF112 rfl
        have hTg_112 := TgC.fr hTg hF112 rfl
        have op_112 : SlC A B τ112 z j p1 ∧ p1 < cnC τ112 := by rw [hp]; exact hSs_112.1 j hj
        obtain ⟨Q112, hQ112⟩ : ∃ q, bdA (asF N z T f) z j Q102.2.2.2.2.2.1 Q102.2 = q := ⟨_, rfl⟩
        rw [hQ112] at hv112 hG112
        try dsimp only [Option.toList, List.cons_append, List.nil_append, s1C, s2C, dlC, kyC, Nat.beq, lkC, rcd, rno, rsw]
        intro a113 e113 ob113
        cases e113
        have f114 : (fIC τ112 p1 270).toInt = kjS z j := op_112.1.1.1
        have c115 : (Int32.ofInt 60).toInt = 60 := by decide
        refine ⟨fun h116 => ?_, fun h116 => ?_⟩
        · have g116 := (neI (x := (fIC τ112 p1 270)) (y := (Int32.ofInt 60)) h116 : ¬ ((fIC τ112 p1 270) : Int32).toInt = ((Int32.ofInt 60) : Int32).toInt)
          exfalso
          omega
        · have g116 := (eqI (x := (fIC τ112 p1 270)) (y := (Int32.ofInt 60)) h116 : ((fIC τ112 p1 270) : Int32).toInt = ((Int32.ofInt 60) : Int32).toInt)
          refine hB _ _ _ _ _ (fun m117 hm117 => ?_)
          dsimp only [ucgo, ucwp, ucsC, uqC, uoC, ctC, rfd, KX2_behindLoop, KX2_behindLoop_0, KX2_behindLoop_9, KX2_behindLoop_43, KX2_behindLoop_52, KX2_behindLoop_64, KX2_behindLoop_65, KX2_behindLoop_85, KX2_behindLoop_91, KX2_behindLoop_95, KX2_behindLoop_117, KX2_behindLoop_133, lkC, s1C, s2C, dlC, kyC, Nat.beq, Nat.ble, rcd, rno, rsw, Nat.reduceAdd, Nat.reduceBEq, Nat.reduceDiv, List.drop, List.take, List.reverse, List.reverseAux, Int.toNat, Option.toList, List.append, List.cons_append, List.nil_append, zg91, zg92, zg270, zg277, zg278, zg279, zg287, zg288]
          intro a118 e118 ob118
          cases e118
          have f119 : (fRC τ112 p1 278) = opA B (gjS z j) := op_112.1.2.2.2.2.1
          intro a120 e120 ob120
          cases e120
          have f121 : (fLC τ112 p1 288) = Q112.2.2.2.2.1 j := by rw [hp]; exact (hG112.1 j hj).2.2.2
          intro w122 τ122 o122 q122
          obtain ⟨v122, rfl, hv122, hG122⟩ := q122 (N, E, A, B, V, z, T, ms, nm, gjS z j, Q112.2, f) ⟨_, _, rfl, hSs_112, hPf_112, hTg_112, ⟨hwf, hup, hBi, hsx⟩, hG112, f119, (by have := (hwf j hj).1; omega), (fun q9 => by have := hup j hj; omega)⟩
          rw [show (v112 &&& (fLC τ112 p1 288)) = (Q112.1 &&& (Q112.2.2.2.2.1 j)) by simp only [f121, hv112]] at hv122 hG122
          have hF122 : FrE [91, 92, 94, 217, 218, 285, 286, 287, 288, 901] σ τ122 := hF112.tr (o122.2.mo rfl)
          have hSs_122 := SsC.fr hSs hF122 rfl
          have hPf_122 := PfC.fr hPf hF122 rfl
          have hTg_122 := TgC.fr hTg hF122 rfl
          have op_122 : SlC A B τ122 z j p1 ∧ p1 < cnC τ122 := by rw [hp]; exact hSs_122.1 j hj
          obtain ⟨Q122, hQ122⟩ : ∃ q, (asF N z T f).1 (gjS z j) (Q112.1 &&& (Q112.2.2.2.2.1 j)) Q112.2 = q := ⟨_, rfl⟩
          rw [hQ122] at hv122 hG122
          try dsimp only [Option.toList, List.cons_append, List.nil_append, s1C, s2C, dlC, kyC, Nat.beq, lkC, rcd, rno, rsw]
          refine hB _ _ _ _ _ (fun m123 hm123 => ?_)
          dsimp only [ucgo, ucwp, ucsC, uqC, uoC, ctC, rfd, KX2_behindLoop, KX2_behindLoop_0, KX2_behindLoop_9, KX2_behindLoop_43, KX2_behindLoop_52, KX2_behindLoop_64, KX2_behindLoop_65, KX2_behindLoop_85, KX2_behindLoop_91, KX2_behindLoop_95, KX2_behindLoop_117, KX2_behindLoop_133, lkC, s1C, s2C, dlC, kyC, Nat.beq, Nat.ble, rcd, rno, rsw, Nat.reduceAdd, Nat.reduceBEq, Nat.reduceDiv, List.drop, List.take, List.reverse, List.reverseAux, Int.toNat, Option.toList, List.append, List.cons_append, List.nil_append, zg91, zg92, zg270, zg277, zg278, zg279, zg287, zg288]
          intro a124 e124 ob124
          cases e124
          have f125 : (fLC τ122 p1 287) = Q122.2.2.2.1 j := by rw [hp]; exact (hG122.1 j hj).2.2.1
          try dsimp only [Qz_behindLoop]
          have hfin : lpA (asF N z T f) z T j p2 g = ((Q102.2.2.2.2.2.2.1 &&& (Q122.2.2.2.1 j)), Q122.2) := by
            unfold lpA
            rw [if_neg (by omega)]
            unfold whA
            rw [if_pos (show kjS z j = 60 by omega), hQ98]
            try dsimp only
            rw [hQ102]
            try dsimp only
            rw [hQ112]
            try dsimp only
            rw [if_pos (show kjS z j = 60 by omega), hQ122]
            try dsimp only
            rw [if_neg (show ¬ xjS z j < 0 by omega)]
            try rfl
          rw [hfin]
          exact ⟨_, rfl, by simp only [f108, f125], hG122⟩
      · have hxn := opA_nn (f104.symm.trans h105)
        refine hB _ _ _ _ _ (fun m126 hm126 => ?_)
        dsimp only [ucgo, ucwp, ucsC, uqC, uoC, ctC, rfd, KX2_behindLoop, KX2_behindLoop_0, KX2_behindLoop_9, KX2_behindLoop_43, KX2_behindLoop_52, KX2_behindLoop_64, KX2_behindLoop_65, KX2_behindLoop_85, KX2_behindLoop_91, KX2_behindLoop_95, KX2_behindLoop_117, KX2_behindLoop_133, lkC, s1C, s2C, dlC, kyC, Nat.beq, Nat.ble, rcd, rno, rsw, Nat.reduceAdd, Nat.reduceBEq, Nat.reduceDiv, List.drop, List.take, List.reverse, List.reverseAux, Int.toNat, Option.toList, List.append, List.cons_append, List.nil_append, zg91, zg92, zg270, zg277, zg278, zg279, zg287, zg288]
        refine hB _ _ _ _ _ (fun m127 hm127 => ?_)
        dsimp only [ucgo, ucwp, ucsC, uqC, uoC, ctC, rfd, KX2_behindLoop, KX2_behindLoop_0, KX2_behindLoop_9, KX2_behindLoop_43, KX2_behindLoop_52, KX2_behindLoop_64, KX2_behindLoop_65, KX2_behindLoop_85, KX2_behindLoop_91, KX2_behindLoop_95, KX2_behindLoop_117, KX2_behindLoop_133, lkC, s1C, s2C, dlC, kyC, Nat.beq, Nat.ble, rcd, rno, rsw, Nat.reduceAdd, Nat.reduceBEq, Nat.reduceDiv, List.drop, List.take, List.reverse, List.reverseAux, Int.toNat, Option.toList, List.append, List.cons_append, List.nil_append, zg91, zg92, zg270, zg277, zg278, zg279, zg287, zg288]
        intro a128 e128 ob128
        cases e128
        have f129 : (fLC τ102 (E 4) 91) = Q102.2.2.2.2.2.1 := hG102.2.1.1
        intro w130 τ130 o130 q130
        obtain ⟨v130, rfl, hv130, hG130⟩ := q130 (N, E, A, B, V, z, T, ms, nm, j, Q102.2, f) ⟨_, _, rfl, hSs_102, hPf_102, hTg_102, ⟨hwf, hup, hBi, hsx⟩, hj, hp, hG102, (by have := hup j hj; omega)⟩
        rw [show (fLC τ102 (E 4) 91) = Q102.2.2.2.2.2.1 by simp only [f129]] at hv130 hG130
        have hF130 : FrE [91, 92, 94, 217, 218, 285, 286, 287, 288, 901] σ τ130 := hF102.tr (o130.2.mo rfl)
        have hSs_130 := SsC.fr hSs hF130 rfl
        have hPf_130 := PfC.fr hPf hF130 rfl
        have hTg_130 := TgC.fr hTg hF130 rfl
        have op_130 : SlC A B τ130 z j p1 ∧ p1 < cnC τ130 := by rw [hp]; exact hSs_130.1 j hj
        obtain ⟨Q130, hQ130⟩ : ∃ q, bdA (asF N z T f) z j Q102.2.2.2.2.2.1 Q102.2 = q := ⟨_, rfl⟩
        rw [hQ130] at hv130 hG130
        try dsimp only [Option.toList, List.cons_append, List.nil_append, s1C, s2C, dlC, kyC, Nat.beq, lkC, rcd, rno, rsw]
        intro a131 e131 ob131
        cases e131
        have f132 : (fIC τ130 p1 270).toInt = kjS z j := op_130.1.1.1
        have c133 : (Int32.ofInt 60).toInt = 60 := by decide
        refine ⟨fun h134 => ?_, fun h134 => ?_⟩
        · have g134 := (neI (x := (fIC τ130 p1 270)) (y := (Int32.ofInt 60)) h134 : ¬ ((fIC τ130 p1 270) : Int32).toInt = ((Int32.ofInt 60) : Int32).toInt)
          exfalso
          omega
        · have g134 := (eqI (x := (fIC τ130 p1 270)) (y := (Int32.ofInt 60)) h134 : ((fIC τ130 p1 270) : Int32).toInt = ((Int32.ofInt 60) : Int32).toInt)
          refine hB _ _ _ _ _ (fun m135 hm135 => ?_)
          dsimp only [ucgo, ucwp, ucsC, uqC, uoC, ctC, rfd, KX2_behindLoop, KX2_behindLoop_0, KX2_behindLoop_9, KX2_behindLoop_43, KX2_behindLoop_52, KX2_behindLoop_64, KX2_behindLoop_65, KX2_behindLoop_85, KX2_behindLoop_91, KX2_behindLoop_95, KX2_behindLoop_117, KX2_behindLoop_133, lkC, s1C, s2C, dlC, kyC, Nat.beq, Nat.ble, rcd, rno, rsw, Nat.reduceAdd, Nat.reduceBEq, Nat.reduceDiv, List.drop, List.take, List.reverse, List.reverseAux, Int.toNat, Option.toList, List.append, List.cons_append, List.nil_append, zg91, zg92, zg270, zg277, zg278, zg279, zg287, zg288]
          intro a136 e136 ob136
          cases e136
          have f137 : (fRC τ130 p1 278) = opA B (gjS z j) := op_130.1.2.2.2.2.1
          intro a138 e138 ob138
          cases e138
          have f139 : (fLC τ130 p1 288) = Q130.2.2.2.2.1 j := by rw [hp]; exact (hG130.1 j hj).2.2.2
          intro w140 τ140 o140 q140
          obtain ⟨v140, rfl, hv140, hG140⟩ := q140 (N, E, A, B, V, z, T, ms, nm, gjS z j, Q130.2, f) ⟨_, _, rfl, hSs_130, hPf_130, hTg_130, ⟨hwf, hup, hBi, hsx⟩, hG130, f137, (by have := (hwf j hj).1; omega), (fun q9 => by have := hup j hj; omega)⟩
          rw [show (v130 &&& (fLC τ130 p1 288)) = (Q130.1 &&& (Q130.2.2.2.2.1 j)) by simp only [f139, hv130]] at hv140 hG140
          have hF140 : FrE [91, 92, 94, 217, 218, 285, 286, 287, 288, 901] σ τ140 := hF130.tr (o140.2.mo rfl)
          have hSs_140 := SsC.fr hSs hF140 rfl
          have hPf_140 := PfC.fr hPf hF140 rfl
          have hTg_140 := TgC.fr hTg hF140 rfl
          have op_140 : SlC A B τ140 z j p1 ∧ p1 < cnC τ140 := by rw [hp]; exact hSs_140.1 j hj
          obtain ⟨Q140, hQ140⟩ : ∃ q, (asF N z T f).1 (gjS z j) (Q130.1 &&& (Q130.2.2.2.2.1 j)) Q130.2 = q := ⟨_, rfl⟩
          rw [hQ140] at hv140 hG140
          try dsimp only [Option.toList, List.cons_append, List.nil_append, s1C, s2C, dlC, kyC, Nat.beq, lkC, rcd, rno, rsw]
          refine hB _ _ _ _ _ (fun m141 hm141 => ?_)
          dsimp only [ucgo, ucwp, ucsC, uqC, uoC, ctC, rfd, KX2_behindLoop, KX2_behindLoop_0, KX2_behindLoop_9, KX2_behindLoop_43, KX2_behindLoop_52, KX2_behindLoop_64, KX2_behindLoop_65, KX2_behindLoop_85, KX2_behindLoop_91, KX2_behindLoop_95, KX2_behindLoop_117, KX2_behindLoop_133, lkC, s1C, s2C, dlC, kyC, Nat.beq, Nat.ble, rcd, rno, rsw, Nat.reduceAdd, Nat.reduceBEq, Nat.reduceDiv, List.drop, List.take, List.reverse, List.reverseAux, Int.toNat, Option.toList, List.append, List.cons_append, List.nil_append, zg91, zg92, zg270, zg277, zg278, zg279, zg287, zg288]
          intro a142 e142 ob142
          cases e142
          have f143 : (fLC τ140 p1 287) = Q140.2.2.2.1 j := by rw [hp]; exact (hG140.1 j hj).2.2.1
          try dsimp only [Qz_behindLoop]
          have hfin : lpA (asF N z T f) z T j p2 g = (((Int64.ofInt (-1)) &&& (Q140.2.2.2.1 j)), Q140.2) := by
            unfold lpA
            rw [if_neg (by omega)]
            unfold whA
            rw [if_pos (show kjS z j = 60 by omega), hQ98]
            try dsimp only
            rw [hQ102]
            try dsimp only
            rw [hQ130]
            try dsimp only
            rw [if_pos (show kjS z j = 60 by omega), hQ140]
            try dsimp only
            rw [if_pos (show xjS z j < 0 by omega)]
            try rfl
          rw [hfin]
          exact ⟨_, rfl, by simp only [f143], hG140⟩
  · have g55 := (eqI (x := (fIC σ p1 270)) (y := (Int32.ofInt 59)) h55 : ((fIC σ p1 270) : Int32).toInt = ((Int32.ofInt 59) : Int32).toInt)
    refine hB _ _ _ _ _ (fun m144 hm144 => ?_)
    dsimp only [ucgo, ucwp, ucsC, uqC, uoC, ctC, rfd, KX2_behindLoop, KX2_behindLoop_0, KX2_behindLoop_9, KX2_behindLoop_43, KX2_behindLoop_52, KX2_behindLoop_64, KX2_behindLoop_65, KX2_behindLoop_85, KX2_behindLoop_91, KX2_behindLoop_95, KX2_behindLoop_117, KX2_behindLoop_133, lkC, s1C, s2C, dlC, kyC, Nat.beq, Nat.ble, rcd, rno, rsw, Nat.reduceAdd, Nat.reduceBEq, Nat.reduceDiv, List.drop, List.take, List.reverse, List.reverseAux, Int.toNat, Option.toList, List.append, List.cons_append, List.nil_append, zg91, zg92, zg270, zg277, zg278, zg279, zg287, zg288]
    intro w145 τ145 o145 q145
    obtain ⟨v145, rfl, hv145, hG145⟩ := q145 (N, E, A, B, V, z, T, ms, nm, j, g, f) ⟨_, _, rfl, hSs, hPf, hTg, ⟨hwf, hup, hBi, hsx⟩, hj, hp, hG, (by have := hup j hj; omega)⟩
    have hF145 : FrE [91, 92, 94, 217, 218, 285, 286, 287, 288, 901] σ τ145 := FrE.mo o145.2 rfl
    have hSs_145 := SsC.fr hSs hF145 rfl
    have hPf_145 := PfC.fr hPf hF145 rfl
    have hTg_145 := TgC.fr hTg hF145 rfl
    have op_145 : SlC A B τ145 z j p1 ∧ p1 < cnC τ145 := by rw [hp]; exact hSs_145.1 j hj
    obtain ⟨Q145, hQ145⟩ : ∃ q, bdA (asF N z T f) z j p2 g = q := ⟨_, rfl⟩
    rw [hQ145] at hv145 hG145
    try dsimp only [Option.toList, List.cons_append, List.nil_append, s1C, s2C, dlC, kyC, Nat.beq, lkC, rcd, rno, rsw]
    intro a146 e146 ob146
    cases e146
    have f147 : (fRC τ145 p1 279) = opA A (xjS z j) := op_145.1.2.2.2.2.2.1
    intro a148 e148 ob148
    cases e148
    have f149 : (fLC τ145 p1 288) = Q145.2.2.2.2.1 j := by rw [hp]; exact (hG145.1 j hj).2.2.2
    intro w150 τ150 o150 q150
    obtain ⟨v150, rfl, hv150, hWh150⟩ := q150 (N, E, A, B, V, z, T, ms, nm, Q145.2.2.2.2.2, xjS z j) ⟨_, _, rfl, hSs_145, hPf_145, hG145.2, f147, (by have := (hwf j hj).2.1; omega), hsx⟩
    rw [show (v145 &&& (fLC τ145 p1 288)) = (Q145.1 &&& (Q145.2.2.2.2.1 j)) by simp only [f149, hv145]] at hv150 hWh150
    have hG150 := AzC.w hG145 o150.2 (fun j9 h9 => (hSs_145.1 j9 h9).2) hWh150
    have hv150 : v150 = (exB z T (xjS z j) (Q145.1 &&& (Q145.2.2.2.2.1 j)) Q145.2).1 := hv150
    have hG150 : AzC E B τ150 z (exB z T (xjS z j) (Q145.1 &&& (Q145.2.2.2.2.1 j)) Q145.2).2 := hG150
    have hF150 : FrE [91, 92, 94, 217, 218, 285, 286, 287, 288, 901] σ τ150 := hF145.tr (o150.2.mo rfl)
    have hSs_150 := SsC.fr hSs hF150 rfl
    have hPf_150 := PfC.fr hPf hF150 rfl
    have hTg_150 := TgC.fr hTg hF150 rfl
    have op_150 : SlC A B τ150 z j p1 ∧ p1 < cnC τ150 := by rw [hp]; exact hSs_150.1 j hj
    obtain ⟨Q150, hQ150⟩ : ∃ q, exB z T (xjS z j) (Q145.1 &&& (Q145.2.2.2.2.1 j)) Q145.2 = q := ⟨_, rfl⟩
    rw [hQ150] at hv150 hG150
    try dsimp only [Option.toList, List.cons_append, List.nil_append, s1C, s2C, dlC, kyC, Nat.beq, lkC, rcd, rno, rsw]
    intro a151 e151 ob151
    cases e151
    have f152 : (fLC τ150 (E 4) 92) = Q150.2.2.2.2.2.2.1 := hG150.2.1.2.1
    intro a153 e153 ob153
    cases e153
    have f154 : (fLC τ150 p1 287) = Q150.2.2.2.1 j := by rw [hp]; exact (hG150.1 j hj).2.2.1
    try dsimp only [Qz_behindLoop]
    have hfin : lpA (asF N z T f) z T j p2 g = ((Q150.2.2.2.2.2.2.1 &&& (Q150.2.2.2.1 j)), Q150.2) := by
      unfold lpA
      rw [if_pos (by omega)]
      unfold doA
      rw [hQ145]
      try dsimp only
      rw [hQ150]
    rw [hfin]
    exact ⟨_, rfl, by simp only [f152, f154], hG150⟩
set_option maxHeartbeats 4000000 in
theorem pz_behindTry (y : (Int → Int) × (Nat → Nat) × (Nat → Nat) × (Nat → Nat) × (Nat → Nat) × ZS × TbT × MfT × Nat × Nat × GzA × Nat) : PbC KX2_behindTry [(29, TrP, EqC 29), (31, TrP, EqC 31), (222, TrP, EqC 222)] [(29, Uz_assign), (31, Uz_assignBody), (222, Uz_bitq)] (fun As σ => Pz_behindTry y As σ ∧ cnC σ ≤ 1000000 ∧ ∃ w τ, uqC quL 38 As σ w τ) (Qz_behindTry y) := by
  obtain ⟨N, E, A, B, V, z, T, ms, nm, j, g, f⟩ := y
  rintro As σ ⟨⟨p1, p2, rfl, hSs, hPf, hTg, hwf, hj, hp, hG, hfu⟩, hcn, _, _, hQ⟩ K hB hW n_
  obtain ⟨hwf, hup, hBi, hsx⟩ := hwf
  have op : SlC A B σ z j p1 ∧ p1 < cnC σ := by rw [hp]; exact hSs.1 j hj
  change K n_ 0 [(0, .inr (.inr (some (E 4)))), (1, .inr (.inr (some p1))), (2, .inr (.inl p2))] [] σ
  refine hB _ _ _ _ _ (fun m51 hm51 => ?_)
  dsimp only [ucgo, ucwp, ucsC, uqC, uoC, ctC, rfd, KX2_behindTry, KX2_behindTry_0, KX2_behindTry_7, KX2_behindTry_11, KX2_behindTry_20, KX2_behindTry_37, KX2_behindTry_51, KX2_behindTry_63, KX2_behindTry_64, KX2_behindTry_70, lkC, s1C, s2C, dlC, kyC, Nat.beq, Nat.ble, rcd, rno, rsw, Nat.reduceAdd, Nat.reduceBEq, Nat.reduceDiv, List.drop, List.take, List.reverse, List.reverseAux, Int.toNat, Option.toList, List.append, List.cons_append, List.nil_append, zg277, zg278, zg280]
  intro a52 e52 ob52
  cases e52
  have f53 : (fRC σ p1 278) = opA B (gjS z j) := op.1.2.2.2.2.1
  refine ⟨fun b54 h54 => ?_, fun h54 => ?_⟩
  · obtain ⟨j54, hj54, hb54⟩ := opA_j (f53.symm.trans h54)
    have hwx54 := (hwf j hj).1
    have hl54 : j54 < snM z := by omega
    have o55 := hSs.1 j54 hl54
    refine hB _ _ _ _ _ (fun m56 hm56 => ?_)
    dsimp only [ucgo, ucwp, ucsC, uqC, uoC, ctC, rfd, KX2_behindTry, KX2_behindTry_0, KX2_behindTry_7, KX2_behindTry_11, KX2_behindTry_20, KX2_behindTry_37, KX2_behindTry_51, KX2_behindTry_63, KX2_behindTry_64, KX2_behindTry_70, lkC, s1C, s2C, dlC, kyC, Nat.beq, Nat.ble, rcd, rno, rsw, Nat.reduceAdd, Nat.reduceBEq, Nat.reduceDiv, List.drop, List.take, List.reverse, List.reverseAux, Int.toNat, Option.toList, List.append, List.cons_append, List.nil_append, zg277, zg278, zg280]
    intro a57 e57 ob57
    cases e57
    have f58 : (fRC σ p1 278) = some (B j54) := by rw [show (fRC σ p1 278) = opA B (gjS z j) from op.1.2.2.2.2.1, hj54, opA_k]
    intro w59 τ59 o59 q59
    rw [f58] at q59 o59
    obtain ⟨v59, rfl, hv59, hG59⟩ := q59 (N, E, A, B, V, z, T, ms, nm, j54, g, f) ⟨_, _, rfl, hSs, hPf, hTg, ⟨hwf, hup, hBi, hsx⟩, hl54, rfl, hG, (by have := hup j hj; have := hup j54 hl54; omega)⟩
    have hF59 : FrE [91, 92, 94, 217, 218, 285, 286, 287, 288, 901] σ τ59 := FrE.mo o59.2 rfl
    have hSs_59 := SsC.fr hSs hF59 rfl
    have hPf_59 := PfC.fr hPf hF59 rfl
    have hTg_59 := TgC.fr hTg hF59 rfl
    have op_59 : SlC A B τ59 z j p1 ∧ p1 < cnC τ59 := by rw [hp]; exact hSs_59.1 j hj
    have o55_59 := hSs_59.1 j54 hl54
    obtain ⟨Q59, hQ59⟩ : ∃ q, (asF N z T f).2.2 j54 p2 g = q := ⟨_, rfl⟩
    rw [hQ59] at hv59 hG59
    try dsimp only [Option.toList, List.cons_append, List.nil_append, s1C, s2C, dlC, kyC, Nat.beq, lkC, rcd, rno, rsw]
    refine hB _ _ _ _ _ (fun m60 hm60 => ?_)
    dsimp only [ucgo, ucwp, ucsC, uqC, uoC, ctC, rfd, KX2_behindTry, KX2_behindTry_0, KX2_behindTry_7, KX2_behindTry_11, KX2_behindTry_20, KX2_behindTry_37, KX2_behindTry_51, KX2_behindTry_63, KX2_behindTry_64, KX2_behindTry_70, lkC, s1C, s2C, dlC, kyC, Nat.beq, Nat.ble, rcd, rno, rsw, Nat.reduceAdd, Nat.reduceBEq, Nat.reduceDiv, List.drop, List.take, List.reverse, List.reverseAux, Int.toNat, Option.toList, List.append, List.cons_append, List.nil_append, zg277, zg278, zg280]
    intro w61 τ61 o61 q61
    obtain ⟨v61, rfl, hv61, hG61⟩ := q61 (N, E, A, B, V, z, T, ms, nm, j, Q59.2, f) ⟨_, _, rfl, hSs_59, hPf_59, hTg_59, ⟨hwf, hup, hBi, hsx⟩, hj, hp, hG59, (by have := hup j hj; have := hup j54 hl54; omega)⟩
    have hF61 : FrE [91, 92, 94, 217, 218, 285, 286, 287, 288, 901] σ τ61 := hF59.tr (o61.2.mo rfl)
    have hSs_61 := SsC.fr hSs hF61 rfl
    have hPf_61 := PfC.fr hPf hF61 rfl
    have hTg_61 := TgC.fr hTg hF61 rfl
    have op_61 : SlC A B τ61 z j p1 ∧ p1 < cnC τ61 := by rw [hp]; exact hSs_61.1 j hj
    have o55_61 := hSs_61.1 j54 hl54
    obtain ⟨Q61, hQ61⟩ : ∃ q, bdA (asF N z T f) z j p2 Q59.2 = q := ⟨_, rfl⟩
    rw [hQ61] at hv61 hG61
    try dsimp only [Option.toList, List.cons_append, List.nil_append, s1C, s2C, dlC, kyC, Nat.beq, lkC, rcd, rno, rsw]
    intro a62 e62 ob62
    cases e62
    have f63 : (fRC τ61 p1 277) = opA B (ojS z j) := op_61.1.2.2.2.1
    refine ⟨fun h64 => ?_, fun b64 h64 => ?_⟩
    · have hx64 := opA_nn (f63.symm.trans h64)
      refine hB _ _ _ _ _ (fun m65 hm65 => ?_)
      dsimp only [ucgo, ucwp, ucsC, uqC, uoC, ctC, rfd, KX2_behindTry, KX2_behindTry_0, KX2_behindTry_7, KX2_behindTry_11, KX2_behindTry_20, KX2_behindTry_37, KX2_behindTry_51, KX2_behindTry_63, KX2_behindTry_64, KX2_behindTry_70, lkC, s1C, s2C, dlC, kyC, Nat.beq, Nat.ble, rcd, rno, rsw, Nat.reduceAdd, Nat.reduceBEq, Nat.reduceDiv, List.drop, List.take, List.reverse, List.reverseAux, Int.toNat, Option.toList, List.append, List.cons_append, List.nil_append, zg277, zg278, zg280]
      try dsimp only [Qz_behindTry]
      have hfin : tyA (asF N z T f) z j p2 g = ((Q61.1 ||| Q59.1), Q61.2) := by
        unfold tyA
        rw [if_neg (show ¬ gjS z j < 0 by omega), show (gjS z j).toNat = j54 by omega, hQ59]
        try dsimp only
        rw [hQ61]
        try dsimp only
        rw [if_pos (show ojS z j < 0 by omega)]
        try rfl
      rw [hfin]
      exact ⟨_, rfl, by simp only [hv59, hv61], hG61⟩
    · obtain ⟨j64, hj64, hb64⟩ := opA_j (f63.symm.trans h64)
      have hwx64 := (hwf j hj).1
      have hl64 : j64 < snM z := by omega
      have o66_61 := hSs_61.1 j64 hl64
      refine hB _ _ _ _ _ (fun m67 hm67 => ?_)
      dsimp only [ucgo, ucwp, ucsC, uqC, uoC, ctC, rfd, KX2_behindTry, KX2_behindTry_0, KX2_behindTry_7, KX2_behindTry_11, KX2_behindTry_20, KX2_behindTry_37, KX2_behindTry_51, KX2_behindTry_63, KX2_behindTry_64, KX2_behindTry_70, lkC, s1C, s2C, dlC, kyC, Nat.beq, Nat.ble, rcd, rno, rsw, Nat.reduceAdd, Nat.reduceBEq, Nat.reduceDiv, List.drop, List.take, List.reverse, List.reverseAux, Int.toNat, Option.toList, List.append, List.cons_append, List.nil_append, zg277, zg278, zg280]
      intro a68 e68 ob68
      cases e68
      have f69 : (fRC τ61 p1 277) = some (B j64) := by rw [show (fRC τ61 p1 277) = opA B (ojS z j) from op_61.1.2.2.2.1, hj64, opA_k]
      intro a70 e70 ob70
      cases e70
      have f71 : (fIC τ61 p1 280).toInt = ljS z j := op_61.1.2.2.2.2.2.2
      refine ⟨fun h72 => ?_, fun h72 => ?_⟩
      · have g72 := ltI (x := (fIC τ61 p1 280)) (y := 0) h72
        have z0_ : (0 : Int32).toInt = 0 := rfl
        refine hB _ _ _ _ _ (fun m73 hm73 => ?_)
        dsimp only [ucgo, ucwp, ucsC, uqC, uoC, ctC, rfd, KX2_behindTry, KX2_behindTry_0, KX2_behindTry_7, KX2_behindTry_11, KX2_behindTry_20, KX2_behindTry_37, KX2_behindTry_51, KX2_behindTry_63, KX2_behindTry_64, KX2_behindTry_70, lkC, s1C, s2C, dlC, kyC, Nat.beq, Nat.ble, rcd, rno, rsw, Nat.reduceAdd, Nat.reduceBEq, Nat.reduceDiv, List.drop, List.take, List.reverse, List.reverseAux, Int.toNat, Option.toList, List.append, List.cons_append, List.nil_append, zg277, zg278, zg280]
        refine hB _ _ _ _ _ (fun m74 hm74 => ?_)
        dsimp only [ucgo, ucwp, ucsC, uqC, uoC, ctC, rfd, KX2_behindTry, KX2_behindTry_0, KX2_behindTry_7, KX2_behindTry_11, KX2_behindTry_20, KX2_behindTry_37, KX2_behindTry_51, KX2_behindTry_63, KX2_behindTry_64, KX2_behindTry_70, lkC, s1C, s2C, dlC, kyC, Nat.beq, Nat.ble, rcd, rno, rsw, Nat.reduceAdd, Nat.reduceBEq, Nat.reduceDiv, List.drop, List.take, List.reverse, List.reverseAux, Int.toNat, Option.toList, List.append, List.cons_append, List.nil_append, zg277, zg278, zg280]
        intro w75 τ75 o75 q75
        rw [f69] at q75 o75
        obtain ⟨v75, rfl, hv75, hG75⟩ := q75 (N, E, A, B, V, z, T, ms, nm, j64, Q61.2, f) ⟨_, _, rfl, hSs_61, hPf_61, hTg_61, ⟨hwf, hup, hBi, hsx⟩, hl64, rfl, hG61, (by have := hup j hj; have := hup j54 hl54; have := hup j64 hl64; omega)⟩
        have hF75 : FrE [91, 92, 94, 217, 218, 285, 286, 287, 288, 901] σ τ75 := hF61.tr (o75.2.mo rfl)
        have hSs_75 := SsC.fr hSs hF75 rfl
        have hPf_75 := PfC.fr hPf hF75 rfl
        have hTg_75 := TgC.fr hTg hF75 rfl
        have op_75 : SlC A B τ75 z j p1 ∧ p1 < cnC τ75 := by rw [hp]; exact hSs_75.1 j hj
        have o55_75 := hSs_75.1 j54 hl54
        have o66_75 := hSs_75.1 j64 hl64
        obtain ⟨Q75, hQ75⟩ : ∃ q, (asF N z T f).2.2 j64 p2 Q61.2 = q := ⟨_, rfl⟩
        rw [hQ75] at hv75 hG75
        try dsimp only [Option.toList, List.cons_append, List.nil_append, s1C, s2C, dlC, kyC, Nat.beq, lkC, rcd, rno, rsw]
        refine hB _ _ _ _ _ (fun m76 hm76 => ?_)
        dsimp only [ucgo, ucwp, ucsC, uqC, uoC, ctC, rfd, KX2_behindTry, KX2_behindTry_0, KX2_behindTry_7, KX2_behindTry_11, KX2_behindTry_20, KX2_behindTry_37, KX2_behindTry_51, KX2_behindTry_63, KX2_behindTry_64, KX2_behindTry_70, lkC, s1C, s2C, dlC, kyC, Nat.beq, Nat.ble, rcd, rno, rsw, Nat.reduceAdd, Nat.reduceBEq, Nat.reduceDiv, List.drop, List.take, List.reverse, List.reverseAux, Int.toNat, Option.toList, List.append, List.cons_append, List.nil_append, zg277, zg278, zg280]
        try dsimp only [Qz_behindTry]
        have hfin : tyA (asF N z T f) z j p2 g = (((Q61.1 &&& Q75.1) ||| Q59.1), Q75.2) := by
          unfold tyA
          rw [if_neg (show ¬ gjS z j < 0 by omega), show (gjS z j).toNat = j54 by omega, hQ59]
          try dsimp only
          rw [hQ61]
          try dsimp only
          rw [if_neg (show ¬ ojS z j < 0 by omega), show (ojS z j).toNat = j64 by omega, if_pos (show ljS z j < 0 by omega), hQ75]
          try rfl
        rw [hfin]
        exact ⟨_, rfl, by simp only [hv59, hv61, hv75], hG75⟩
      · have g72 := nltI (x := (fIC τ61 p1 280)) (y := 0) h72
        have z0_ : (0 : Int32).toInt = 0 := rfl
        refine hB _ _ _ _ _ (fun m77 hm77 => ?_)
        dsimp only [ucgo, ucwp, ucsC, uqC, uoC, ctC, rfd, KX2_behindTry, KX2_behindTry_0, KX2_behindTry_7, KX2_behindTry_11, KX2_behindTry_20, KX2_behindTry_37, KX2_behindTry_51, KX2_behindTry_63, KX2_behindTry_64, KX2_behindTry_70, lkC, s1C, s2C, dlC, kyC, Nat.beq, Nat.ble, rcd, rno, rsw, Nat.reduceAdd, Nat.reduceBEq, Nat.reduceDiv, List.drop, List.take, List.reverse, List.reverseAux, Int.toNat, Option.toList, List.append, List.cons_append, List.nil_append, zg277, zg278, zg280]
        intro a78 e78 ob78
        cases e78
        have f79 : (fIC τ61 p1 280).toInt = ljS z j := op_61.1.2.2.2.2.2.2
        intro w80 τ80 o80 q80
        obtain ⟨r80, rfl, hr80, rfl⟩ := q80 (N, E, A, B, V, z) ⟨_, rfl⟩
        rw [show ((fIC τ61 p1 280) : Int32).toInt = ljS z j by omega] at hr80
        try dsimp only [Option.toList, List.cons_append, List.nil_append, s1C, s2C, dlC, kyC, Nat.beq, lkC, rcd, rno, rsw]
        refine hB _ _ _ _ _ (fun m81 hm81 => ?_)
        dsimp only [ucgo, ucwp, ucsC, uqC, uoC, ctC, rfd, KX2_behindTry, KX2_behindTry_0, KX2_behindTry_7, KX2_behindTry_11, KX2_behindTry_20, KX2_behindTry_37, KX2_behindTry_51, KX2_behindTry_63, KX2_behindTry_64, KX2_behindTry_70, lkC, s1C, s2C, dlC, kyC, Nat.beq, Nat.ble, rcd, rno, rsw, Nat.reduceAdd, Nat.reduceBEq, Nat.reduceDiv, List.drop, List.take, List.reverse, List.reverseAux, Int.toNat, Option.toList, List.append, List.cons_append, List.nil_append, zg277, zg278, zg280]
        intro w82 τ82 o82 q82
        rw [f69] at q82 o82
        obtain ⟨v82, rfl, hv82, hG82⟩ := q82 (N, E, A, B, V, z, T, ms, nm, j64, Q61.2, f) ⟨_, _, rfl, hSs_61, hPf_61, hTg_61, ⟨hwf, hup, hBi, hsx⟩, hl64, rfl, hG61, (by have := hup j hj; have := hup j54 hl54; have := hup j64 hl64; omega)⟩
        rw [show (p2 ||| r80) = (p2 ||| bitQ (ljS z j)) by simp only [hr80]] at hv82 hG82
        have hF82 : FrE [91, 92, 94, 217, 218, 285, 286, 287, 288, 901] σ τ82 := hF61.tr (o82.2.mo rfl)
        have hSs_82 := SsC.fr hSs hF82 rfl
        have hPf_82 := PfC.fr hPf hF82 rfl
        have hTg_82 := TgC.fr hTg hF82 rfl
        have op_82 : SlC A B τ82 z j p1 ∧ p1 < cnC τ82 := by rw [hp]; exact hSs_82.1 j hj
        have o55_82 := hSs_82.1 j54 hl54
        have o66_82 := hSs_82.1 j64 hl64
        obtain ⟨Q82, hQ82⟩ : ∃ q, (asF N z T f).2.2 j64 (p2 ||| bitQ (ljS z j)) Q61.2 = q := ⟨_, rfl⟩
        rw [hQ82] at hv82 hG82
        try dsimp only [Option.toList, List.cons_append, List.nil_append, s1C, s2C, dlC, kyC, Nat.beq, lkC, rcd, rno, rsw]
        refine hB _ _ _ _ _ (fun m83 hm83 => ?_)
        dsimp only [ucgo, ucwp, ucsC, uqC, uoC, ctC, rfd, KX2_behindTry, KX2_behindTry_0, KX2_behindTry_7, KX2_behindTry_11, KX2_behindTry_20, KX2_behindTry_37, KX2_behindTry_51, KX2_behindTry_63, KX2_behindTry_64, KX2_behindTry_70, lkC, s1C, s2C, dlC, kyC, Nat.beq, Nat.ble, rcd, rno, rsw, Nat.reduceAdd, Nat.reduceBEq, Nat.reduceDiv, List.drop, List.take, List.reverse, List.reverseAux, Int.toNat, Option.toList, List.append, List.cons_append, List.nil_append, zg277, zg278, zg280]
        try dsimp only [Qz_behindTry]
        have hfin : tyA (asF N z T f) z j p2 g = (((Q61.1 &&& Q82.1) ||| Q59.1), Q82.2) := by
          unfold tyA
          rw [if_neg (show ¬ gjS z j < 0 by omega), show (gjS z j).toNat = j54 by omega, hQ59]
          try dsimp only
          rw [hQ61]
          try dsimp only
          rw [if_neg (show ¬ ojS z j < 0 by omega), show (ojS z j).toNat = j64 by omega, if_neg (show ¬ ljS z j < 0 by omega), hQ82]
          try rfl
        rw [hfin]
        exact ⟨_, rfl, by simp only [hv59, hv61, hv82], hG82⟩
  · have hx54 := opA_nn (f53.symm.trans h54)
    refine hB _ _ _ _ _ (fun m84 hm84 => ?_)
    dsimp only [ucgo, ucwp, ucsC, uqC, uoC, ctC, rfd, KX2_behindTry, KX2_behindTry_0, KX2_behindTry_7, KX2_behindTry_11, KX2_behindTry_20, KX2_behindTry_37, KX2_behindTry_51, KX2_behindTry_63, KX2_behindTry_64, KX2_behindTry_70, lkC, s1C, s2C, dlC, kyC, Nat.beq, Nat.ble, rcd, rno, rsw, Nat.reduceAdd, Nat.reduceBEq, Nat.reduceDiv, List.drop, List.take, List.reverse, List.reverseAux, Int.toNat, Option.toList, List.append, List.cons_append, List.nil_append, zg277, zg278, zg280]
    refine hB _ _ _ _ _ (fun m85 hm85 => ?_)
    dsimp only [ucgo, ucwp, ucsC, uqC, uoC, ctC, rfd, KX2_behindTry, KX2_behindTry_0, KX2_behindTry_7, KX2_behindTry_11, KX2_behindTry_20, KX2_behindTry_37, KX2_behindTry_51, KX2_behindTry_63, KX2_behindTry_64, KX2_behindTry_70, lkC, s1C, s2C, dlC, kyC, Nat.beq, Nat.ble, rcd, rno, rsw, Nat.reduceAdd, Nat.reduceBEq, Nat.reduceDiv, List.drop, List.take, List.reverse, List.reverseAux, Int.toNat, Option.toList, List.append, List.cons_append, List.nil_append, zg277, zg278, zg280]
    intro w86 τ86 o86 q86
    obtain ⟨v86, rfl, hv86, hG86⟩ := q86 (N, E, A, B, V, z, T, ms, nm, j, g, f) ⟨_, _, rfl, hSs, hPf, hTg, ⟨hwf, hup, hBi, hsx⟩, hj, hp, hG, (by have := hup j hj; omega)⟩
    have hF86 : FrE [91, 92, 94, 217, 218, 285, 286, 287, 288, 901] σ τ86 := FrE.mo o86.2 rfl
    have hSs_86 := SsC.fr hSs hF86 rfl
    have hPf_86 := PfC.fr hPf hF86 rfl
    have hTg_86 := TgC.fr hTg hF86 rfl
    have op_86 : SlC A B τ86 z j p1 ∧ p1 < cnC τ86 := by rw [hp]; exact hSs_86.1 j hj
    obtain ⟨Q86, hQ86⟩ : ∃ q, bdA (asF N z T f) z j p2 g = q := ⟨_, rfl⟩
    rw [hQ86] at hv86 hG86
    try dsimp only [Option.toList, List.cons_append, List.nil_append, s1C, s2C, dlC, kyC, Nat.beq, lkC, rcd, rno, rsw]
    intro a87 e87 ob87
    cases e87
    have f88 : (fRC τ86 p1 277) = opA B (ojS z j) := op_86.1.2.2.2.1
    refine ⟨fun h89 => ?_, fun b89 h89 => ?_⟩
    · have hx89 := opA_nn (f88.symm.trans h89)
      refine hB _ _ _ _ _ (fun m90 hm90 => ?_)
      dsimp only [ucgo, ucwp, ucsC, uqC, uoC, ctC, rfd, KX2_behindTry, KX2_behindTry_0, KX2_behindTry_7, KX2_behindTry_11, KX2_behindTry_20, KX2_behindTry_37, KX2_behindTry_51, KX2_behindTry_63, KX2_behindTry_64, KX2_behindTry_70, lkC, s1C, s2C, dlC, kyC, Nat.beq, Nat.ble, rcd, rno, rsw, Nat.reduceAdd, Nat.reduceBEq, Nat.reduceDiv, List.drop, List.take, List.reverse, List.reverseAux, Int.toNat, Option.toList, List.append, List.cons_append, List.nil_append, zg277, zg278, zg280]
      try dsimp only [Qz_behindTry]
      have hfin : tyA (asF N z T f) z j p2 g = ((Q86.1 ||| (Int64.ofNat ((0 : Fin 2) : Nat))), Q86.2) := by
        unfold tyA
        rw [if_pos (show gjS z j < 0 by omega)]
        try dsimp only
        rw [hQ86]
        try dsimp only
        rw [if_pos (show ojS z j < 0 by omega)]
        try rfl
      rw [hfin]
      exact ⟨_, rfl, by simp only [hv86], hG86⟩
    · obtain ⟨j89, hj89, hb89⟩ := opA_j (f88.symm.trans h89)
      have hwx89 := (hwf j hj).1
      have hl89 : j89 < snM z := by omega
      have o91_86 := hSs_86.1 j89 hl89
      refine hB _ _ _ _ _ (fun m92 hm92 => ?_)
      dsimp only [ucgo, ucwp, ucsC, uqC, uoC, ctC, rfd, KX2_behindTry, KX2_behindTry_0, KX2_behindTry_7, KX2_behindTry_11, KX2_behindTry_20, KX2_behindTry_37, KX2_behindTry_51, KX2_behindTry_63, KX2_behindTry_64, KX2_behindTry_70, lkC, s1C, s2C, dlC, kyC, Nat.beq, Nat.ble, rcd, rno, rsw, Nat.reduceAdd, Nat.reduceBEq, Nat.reduceDiv, List.drop, List.take, List.reverse, List.reverseAux, Int.toNat, Option.toList, List.append, List.cons_append, List.nil_append, zg277, zg278, zg280]
      intro a93 e93 ob93
      cases e93
      have f94 : (fRC τ86 p1 277) = some (B j89) := by rw [show (fRC τ86 p1 277) = opA B (ojS z j) from op_86.1.2.2.2.1, hj89, opA_k]
      intro a95 e95 ob95
      cases e95
      have f96 : (fIC τ86 p1 280).toInt = ljS z j := op_86.1.2.2.2.2.2.2
      refine ⟨fun h97 => ?_, fun h97 => ?_⟩
      · have g97 := ltI (x := (fIC τ86 p1 280)) (y := 0) h97
        have z0_ : (0 : Int32).toInt = 0 := rfl
        refine hB _ _ _ _ _ (fun m98 hm98 => ?_)
        dsimp only [ucgo, ucwp, ucsC, uqC, uoC, ctC, rfd, KX2_behindTry, KX2_behindTry_0, KX2_behindTry_7, KX2_behindTry_11, KX2_behindTry_20, KX2_behindTry_37, KX2_behindTry_51, KX2_behindTry_63, KX2_behindTry_64, KX2_behindTry_70, lkC, s1C, s2C, dlC, kyC, Nat.beq, Nat.ble, rcd, rno, rsw, Nat.reduceAdd, Nat.reduceBEq, Nat.reduceDiv, List.drop, List.take, List.reverse, List.reverseAux, Int.toNat, Option.toList, List.append, List.cons_append, List.nil_append, zg277, zg278, zg280]
        refine hB _ _ _ _ _ (fun m99 hm99 => ?_)
        dsimp only [ucgo, ucwp, ucsC, uqC, uoC, ctC, rfd, KX2_behindTry, KX2_behindTry_0, KX2_behindTry_7, KX2_behindTry_11, KX2_behindTry_20, KX2_behindTry_37, KX2_behindTry_51, KX2_behindTry_63, KX2_behindTry_64, KX2_behindTry_70, lkC, s1C, s2C, dlC, kyC, Nat.beq, Nat.ble, rcd, rno, rsw, Nat.reduceAdd, Nat.reduceBEq, Nat.reduceDiv, List.drop, List.take, List.reverse, List.reverseAux, Int.toNat, Option.toList, List.append, List.cons_append, List.nil_append, zg277, zg278, zg280]
        intro w100 τ100 o100 q100
        rw [f94] at q100 o100
        obtain ⟨v100, rfl, hv100, hG100⟩ := q100 (N, E, A, B, V, z, T, ms, nm, j89, Q86.2, f) ⟨_, _, rfl, hSs_86, hPf_86, hTg_86, ⟨hwf, hup, hBi, hsx⟩, hl89, rfl, hG86, (by have := hup j hj; have := hup j89 hl89; omega)⟩
        have hF100 : FrE [91, 92, 94, 217, 218, 285, 286, 287, 288, 901] σ τ100 := hF86.tr (o100.2.mo rfl)
        have hSs_100 := SsC.fr hSs hF100 rfl
        have hPf_100 := PfC.fr hPf hF100 rfl
        have hTg_100 := TgC.fr hTg hF100 rfl
        have op_100 : SlC A B τ100 z j p1 ∧ p1 < cnC τ100 := by rw [hp]; exact hSs_100.1 j hj
        have o91_100 := hSs_100.1 j89 hl89
        obtain ⟨Q100, hQ100⟩ : ∃ q, (asF N z T f).2.2 j89 p2 Q86.2 = q := ⟨_, rfl⟩
        rw [hQ100] at hv100 hG100
        try dsimp only [Option.toList, List.cons_append, List.nil_append, s1C, s2C, dlC, kyC, Nat.beq, lkC, rcd, rno, rsw]
        refine hB _ _ _ _ _ (fun m101 hm101 => ?_)
        dsimp only [ucgo, ucwp, ucsC, uqC, uoC, ctC, rfd, KX2_behindTry, KX2_behindTry_0, KX2_behindTry_7, KX2_behindTry_11, KX2_behindTry_20, KX2_behindTry_37, KX2_behindTry_51, KX2_behindTry_63, KX2_behindTry_64, KX2_behindTry_70, lkC, s1C, s2C, dlC, kyC, Nat.beq, Nat.ble, rcd, rno, rsw, Nat.reduceAdd, Nat.reduceBEq, Nat.reduceDiv, List.drop, List.take, List.reverse, List.reverseAux, Int.toNat, Option.toList, List.append, List.cons_append, List.nil_append, zg277, zg278, zg280]
        try dsimp only [Qz_behindTry]
        have hfin : tyA (asF N z T f) z j p2 g = (((Q86.1 &&& Q100.1) ||| (Int64.ofNat ((0 : Fin 2) : Nat))), Q100.2) := by
          unfold tyA
          rw [if_pos (show gjS z j < 0 by omega)]
          try dsimp only
          rw [hQ86]
          try dsimp only
          rw [if_neg (show ¬ ojS z j < 0 by omega), show (ojS z j).toNat = j89 by omega, if_pos (show ljS z j < 0 by omega), hQ100]
          try rfl
        rw [hfin]
        exact ⟨_, rfl, by simp only [hv100, hv86], hG100⟩
      · have g97 := nltI (x := (fIC τ86 p1 280)) (y := 0) h97
        have z0_ : (0 : Int32).toInt = 0 := rfl
        refine hB _ _ _ _ _ (fun m102 hm102 => ?_)
        dsimp only [ucgo, ucwp, ucsC, uqC, uoC, ctC, rfd, KX2_behindTry, KX2_behindTry_0, KX2_behindTry_7, KX2_behindTry_11, KX2_behindTry_20, KX2_behindTry_37, KX2_behindTry_51, KX2_behindTry_63, KX2_behindTry_64, KX2_behindTry_70, lkC, s1C, s2C, dlC, kyC, Nat.beq, Nat.ble, rcd, rno, rsw, Nat.reduceAdd, Nat.reduceBEq, Nat.reduceDiv, List.drop, List.take, List.reverse, List.reverseAux, Int.toNat, Option.toList, List.append, List.cons_append, List.nil_append, zg277, zg278, zg280]
        intro a103 e103 ob103
        cases e103
        have f104 : (fIC τ86 p1 280).toInt = ljS z j := op_86.1.2.2.2.2.2.2
        intro w105 τ105 o105 q105
        obtain ⟨r105, rfl, hr105, rfl⟩ := q105 (N, E, A, B, V, z) ⟨_, rfl⟩
        rw [show ((fIC τ86 p1 280) : Int32).toInt = ljS z j by omega] at hr105
        try dsimp only [Option.toList, List.cons_append, List.nil_append, s1C, s2C, dlC, kyC, Nat.beq, lkC, rcd, rno, rsw]
        refine hB _ _ _ _ _ (fun m106 hm106 => ?_)
        dsimp only [ucgo, ucwp, ucsC, uqC, uoC, ctC, rfd, KX2_behindTry, KX2_behindTry_0, KX2_behindTry_7, KX2_behindTry_11, KX2_behindTry_20, KX2_behindTry_37, KX2_behindTry_51, KX2_behindTry_63, KX2_behindTry_64, KX2_behindTry_70, lkC, s1C, s2C, dlC, kyC, Nat.beq, Nat.ble, rcd, rno, rsw, Nat.reduceAdd, Nat.reduceBEq, Nat.reduceDiv, List.drop, List.take, List.reverse, List.reverseAux, Int.toNat, Option.toList, List.append, List.cons_append, List.nil_append, zg277, zg278, zg280]
        intro w107 τ107 o107 q107
        rw [f94] at q107 o107
        obtain ⟨v107, rfl, hv107, hG107⟩ := q107 (N, E, A, B, V, z, T, ms, nm, j89, Q86.2, f) ⟨_, _, rfl, hSs_86, hPf_86, hTg_86, ⟨hwf, hup, hBi, hsx⟩, hl89, rfl, hG86, (by have := hup j hj; have := hup j89 hl89; omega)⟩
        rw [show (p2 ||| r105) = (p2 ||| bitQ (ljS z j)) by simp only [hr105]] at hv107 hG107
        have hF107 : FrE [91, 92, 94, 217, 218, 285, 286, 287, 288, 901] σ τ107 := hF86.tr (o107.2.mo rfl)
        have hSs_107 := SsC.fr hSs hF107 rfl
        have hPf_107 := PfC.fr hPf hF107 rfl
        have hTg_107 := TgC.fr hTg hF107 rfl
        have op_107 : SlC A B τ107 z j p1 ∧ p1 < cnC τ107 := by rw [hp]; exact hSs_107.1 j hj
        have o91_107 := hSs_107.1 j89 hl89
        obtain ⟨Q107, hQ107⟩ : ∃ q, (asF N z T f).2.2 j89 (p2 ||| bitQ (ljS z j)) Q86.2 = q := ⟨_, rfl⟩
        rw [hQ107] at hv107 hG107
        try dsimp only [Option.toList, List.cons_append, List.nil_append, s1C, s2C, dlC, kyC, Nat.beq, lkC, rcd, rno, rsw]
        refine hB _ _ _ _ _ (fun m108 hm108 => ?_)
        dsimp only [ucgo, ucwp, ucsC, uqC, uoC, ctC, rfd, KX2_behindTry, KX2_behindTry_0, KX2_behindTry_7, KX2_behindTry_11, KX2_behindTry_20, KX2_behindTry_37, KX2_behindTry_51, KX2_behindTry_63, KX2_behindTry_64, KX2_behindTry_70, lkC, s1C, s2C, dlC, kyC, Nat.beq, Nat.ble, rcd, rno, rsw, Nat.reduceAdd, Nat.reduceBEq, Nat.reduceDiv, List.drop, List.take, List.reverse, List.reverseAux, Int.toNat, Option.toList, List.append, List.cons_append, List.nil_append, zg277, zg278, zg280]
        try dsimp only [Qz_behindTry]
        have hfin : tyA (asF N z T f) z j p2 g = (((Q86.1 &&& Q107.1) ||| (Int64.ofNat ((0 : Fin 2) : Nat))), Q107.2) := by
          unfold tyA
          rw [if_pos (show gjS z j < 0 by omega)]
          try dsimp only
          rw [hQ86]
          try dsimp only
          rw [if_neg (show ¬ ojS z j < 0 by omega), show (ojS z j).toNat = j89 by omega, if_neg (show ¬ ljS z j < 0 by omega), hQ107]
          try rfl
        rw [hfin]
        exact ⟨_, rfl, by simp only [hv107, hv86], hG107⟩
set_option maxHeartbeats 4000000 in
theorem pz_behindSwitch (y : (Int → Int) × (Nat → Nat) × (Nat → Nat) × (Nat → Nat) × (Nat → Nat) × ZS × TbT × MfT × Nat × Nat × GzA × Nat) : PbC KX2_behindSwitch [(39, TrP, EqC 39), (29, TrP, EqC 29)] [(39, Uz_behindExp), (29, Uz_assign)] (fun As σ => Pz_behindSwitch y As σ ∧ cnC σ ≤ 1000000 ∧ ∃ w τ, uqC quL 37 As σ w τ) (Qz_behindSwitch y) := by
  obtain ⟨N, E, A, B, V, z, T, ms, nm, j, g, f⟩ := y
  rintro As σ ⟨⟨p1, p2, rfl, hSs, hPf, hTg, hwf, hj, hp, hG, hfu⟩, hcn, _, _, hQ⟩ K hB hW n_
  obtain ⟨hwf, hup, hBi, hsx⟩ := hwf
  have op : SlC A B σ z j p1 ∧ p1 < cnC σ := by rw [hp]; exact hSs.1 j hj
  have L25 : ∀ (n : Nat) (s0 : CsC) (c9 : Int64) (m9 : Int64) (dd : Int32) (x9 : Int) (d9 : Bool) (g9 : GzA) (fu : Nat), (FrE [91, 92, 94, 217, 218, 285, 286, 287, 288, 901] σ s0) → (AzC E B s0 z g9) → (dd.toInt = bZI d9) → (x9 < (snM z : Int)) → (0 ≤ x9 → 2 * (snM z : Int) + 1 ≤ (fu : Int) + 2 * x9) → (swA (asF N z T f) z T j p2 g = (fun (q : Int64 × Bool × GzA) => ((if q.2.1 = true then q.1 else q.1 &&& c9) &&& q.2.2.2.2.1 j, q.2.2)) ((asF N z T fu).2.1 x9 c9 m9 d9 g9)) →  K n 25 [(0, .inr (.inr (some (E 4)))), (1, .inr (.inr (some p1))), (4, .inr (.inl c9)), (6, .inr (.inl m9)), (8, .inl dd), (9, .inr (.inr (opA B x9)))] [] s0 := by
    intro n
    induction n using Nat.strongRecOn with
    | _ n ih =>
      intro s0 c9 m9 dd x9 d9 g9 fu hF0 hG9 hdd hx9 hfl heq
      have hSs_0 := SsC.fr hSs hF0 rfl
      have hPf_0 := PfC.fr hPf hF0 rfl
      have hTg_0 := TgC.fr hTg hF0 rfl
      have op_0 : SlC A B s0 z j p1 ∧ p1 < cnC s0 := by rw [hp]; exact hSs_0.1 j hj
      refine hB _ _ _ _ _ (fun m51 hm51 => ?_)
      dsimp only [ucgo, ucwp, ucsC, uqC, uoC, ctC, rfd, KX2_behindSwitch, KX2_behindSwitch_0, KX2_behindSwitch_25, KX2_behindSwitch_30, KX2_behindSwitch_40, KX2_behindSwitch_50, KX2_behindSwitch_69, KX2_behindSwitch_73, KX2_behindSwitch_74, KX2_behindSwitch_80, KX2_behindSwitch_90, KX2_behindSwitch_100, KX2_behindSwitch_105, KX2_behindSwitch_110, KX2_behindSwitch_115, lkC, s1C, s2C, dlC, kyC, Nat.beq, Nat.ble, rcd, rno, rsw, Nat.reduceAdd, Nat.reduceBEq, Nat.reduceDiv, List.drop, List.take, List.reverse, List.reverseAux, Int.toNat, Option.toList, List.append, List.cons_append, List.nil_append, zg270, zg275, zg276, zg279, zg287]
      refine ⟨fun h52 => ?_, fun b52 h52 => ?_⟩
      · have hx52 := opA_nn ((Eq.refl (opA B x9)).symm.trans h52)
        refine hB _ _ _ _ _ (fun m53 hm53 => ?_)
        dsimp only [ucgo, ucwp, ucsC, uqC, uoC, ctC, rfd, KX2_behindSwitch, KX2_behindSwitch_0, KX2_behindSwitch_25, KX2_behindSwitch_30, KX2_behindSwitch_40, KX2_behindSwitch_50, KX2_behindSwitch_69, KX2_behindSwitch_73, KX2_behindSwitch_74, KX2_behindSwitch_80, KX2_behindSwitch_90, KX2_behindSwitch_100, KX2_behindSwitch_105, KX2_behindSwitch_110, KX2_behindSwitch_115, lkC, s1C, s2C, dlC, kyC, Nat.beq, Nat.ble, rcd, rno, rsw, Nat.reduceAdd, Nat.reduceBEq, Nat.reduceDiv, List.drop, List.take, List.reverse, List.reverseAux, Int.toNat, Option.toList, List.append, List.cons_append, List.nil_append, zg270, zg275, zg276, zg279, zg287]
        refine ⟨fun h54 => ?_, fun h54 => ?_⟩
        · have g54 := (eqI (x := dd) (y := 0) h54 : (dd : Int32).toInt = (0 : Int32).toInt)
          have z0_ : (0 : Int32).toInt = 0 := rfl
          have hb54 : d9 = false := bZI_f (by omega)
          refine hB _ _ _ _ _ (fun m55 hm55 => ?_)
          dsimp only [ucgo, ucwp, ucsC, uqC, uoC, ctC, rfd, KX2_behindSwitch, KX2_behindSwitch_0, KX2_behindSwitch_25, KX2_behindSwitch_30, KX2_behindSwitch_40, KX2_behindSwitch_50, KX2_behindSwitch_69, KX2_behindSwitch_73, KX2_behindSwitch_74, KX2_behindSwitch_80, KX2_behindSwitch_90, KX2_behindSwitch_100, KX2_behindSwitch_105, KX2_behindSwitch_110, KX2_behindSwitch_115, lkC, s1C, s2C, dlC, kyC, Nat.beq, Nat.ble, rcd, rno, rsw, Nat.reduceAdd, Nat.reduceBEq, Nat.reduceDiv, List.drop, List.take, List.reverse, List.reverseAux, Int.toNat, Option.toList, List.append, List.cons_append, List.nil_append, zg270, zg275, zg276, zg279, zg287]
          refine hB _ _ _ _ _ (fun m56 hm56 => ?_)
          dsimp only [ucgo, ucwp, ucsC, uqC, uoC, ctC, rfd, KX2_behindSwitch, KX2_behindSwitch_0, KX2_behindSwitch_25, KX2_behindSwitch_30, KX2_behindSwitch_40, KX2_behindSwitch_50, KX2_behindSwitch_69, KX2_behindSwitch_73, KX2_behindSwitch_74, KX2_behindSwitch_80, KX2_behindSwitch_90, KX2_behindSwitch_100, KX2_behindSwitch_105, KX2_behindSwitch_110, KX2_behindSwitch_115, lkC, s1C, s2C, dlC, kyC, Nat.beq, Nat.ble, rcd, rno, rsw, Nat.reduceAdd, Nat.reduceBEq, Nat.reduceDiv, List.drop, List.take, List.reverse, List.reverseAux, Int.toNat, Option.toList, List.append, List.cons_append, List.nil_append, zg270, zg275, zg276, zg279, zg287]
          intro a57 e57 ob57
          cases e57
          have f58 : (fLC s0 p1 287) = g9.2.2.1 j := by rw [hp]; exact (hG9.1 j hj).2.2.1
          try dsimp only [Qz_behindSwitch]
          have hfin : swA (asF N z T f) z T j p2 g = (((m9 &&& c9) &&& (g9.2.2.1 j)), g9) := by
            rw [heq, as_s0 (by omega)]
            try dsimp only
            rw [hb54, if_neg (by decide)]
            try rfl
          rw [hfin]
          exact ⟨_, rfl, by simp only [f58], hG9⟩
        · have g54 := (neI (x := dd) (y := 0) h54 : ¬ (dd : Int32).toInt = (0 : Int32).toInt)
          have z0_ : (0 : Int32).toInt = 0 := rfl
          have hb54 : d9 = true := bZI_t (by omega)
          refine hB _ _ _ _ _ (fun m59 hm59 => ?_)
          dsimp only [ucgo, ucwp, ucsC, uqC, uoC, ctC, rfd, KX2_behindSwitch, KX2_behindSwitch_0, KX2_behindSwitch_25, KX2_behindSwitch_30, KX2_behindSwitch_40, KX2_behindSwitch_50, KX2_behindSwitch_69, KX2_behindSwitch_73, KX2_behindSwitch_74, KX2_behindSwitch_80, KX2_behindSwitch_90, KX2_behindSwitch_100, KX2_behindSwitch_105, KX2_behindSwitch_110, KX2_behindSwitch_115, lkC, s1C, s2C, dlC, kyC, Nat.beq, Nat.ble, rcd, rno, rsw, Nat.reduceAdd, Nat.reduceBEq, Nat.reduceDiv, List.drop, List.take, List.reverse, List.reverseAux, Int.toNat, Option.toList, List.append, List.cons_append, List.nil_append, zg270, zg275, zg276, zg279, zg287]
          refine hB _ _ _ _ _ (fun m60 hm60 => ?_)
          dsimp only [ucgo, ucwp, ucsC, uqC, uoC, ctC, rfd, KX2_behindSwitch, KX2_behindSwitch_0, KX2_behindSwitch_25, KX2_behindSwitch_30, KX2_behindSwitch_40, KX2_behindSwitch_50, KX2_behindSwitch_69, KX2_behindSwitch_73, KX2_behindSwitch_74, KX2_behindSwitch_80, KX2_behindSwitch_90, KX2_behindSwitch_100, KX2_behindSwitch_105, KX2_behindSwitch_110, KX2_behindSwitch_115, lkC, s1C, s2C, dlC, kyC, Nat.beq, Nat.ble, rcd, rno, rsw, Nat.reduceAdd, Nat.reduceBEq, Nat.reduceDiv, List.drop, List.take, List.reverse, List.reverseAux, Int.toNat, Option.toList, List.append, List.cons_append, List.nil_append, zg270, zg275, zg276, zg279, zg287]
          intro a61 e61 ob61
          cases e61
          have f62 : (fLC s0 p1 287) = g9.2.2.1 j := by rw [hp]; exact (hG9.1 j hj).2.2.1
          try dsimp only [Qz_behindSwitch]
          have hfin : swA (asF N z T f) z T j p2 g = ((m9 &&& (g9.2.2.1 j)), g9) := by
            rw [heq, as_s0 (by omega)]
            try dsimp only
            rw [hb54, if_pos rfl]
            try rfl
          rw [hfin]
          exact ⟨_, rfl, by simp only [f62], hG9⟩
      · obtain ⟨j52, hj52, hb52⟩ := opA_j ((Eq.refl (opA B x9)).symm.trans h52)
        have hl52 : j52 < snM z := by omega
        have o63_0 := hSs_0.1 j52 hl52
        have hf9 := hfl (by omega)
        obtain ⟨k9, rfl⟩ : ∃ k9, fu = k9 + 1 := ⟨fu - 1, by omega⟩
        rw [hj52] at heq hfl hx9
        refine hB _ _ _ _ _ (fun m64 hm64 => ?_)
        dsimp only [ucgo, ucwp, ucsC, uqC, uoC, ctC, rfd, KX2_behindSwitch, KX2_behindSwitch_0, KX2_behindSwitch_25, KX2_behindSwitch_30, KX2_behindSwitch_40, KX2_behindSwitch_50, KX2_behindSwitch_69, KX2_behindSwitch_73, KX2_behindSwitch_74, KX2_behindSwitch_80, KX2_behindSwitch_90, KX2_behindSwitch_100, KX2_behindSwitch_105, KX2_behindSwitch_110, KX2_behindSwitch_115, lkC, s1C, s2C, dlC, kyC, Nat.beq, Nat.ble, rcd, rno, rsw, Nat.reduceAdd, Nat.reduceBEq, Nat.reduceDiv, List.drop, List.take, List.reverse, List.reverseAux, Int.toNat, Option.toList, List.append, List.cons_append, List.nil_append, zg270, zg275, zg276, zg279, zg287]
        intro a65 e65 ob65
        obtain rfl : B j52 = a65 := Option.some.inj ((h52.trans (congrArg some hb52)).symm.trans e65)
        have f66 : (fIC s0 (B j52) 270).toInt = kjS z j52 := o63_0.1.1.1
        have c67 : (Int32.ofInt 62).toInt = 62 := by decide
        refine ⟨fun h68 => ?_, fun h68 => ?_⟩
        · have g68 := (eqI (x := (fIC s0 (B j52) 270)) (y := (Int32.ofInt 62)) h68 : ((fIC s0 (B j52) 270) : Int32).toInt = ((Int32.ofInt 62) : Int32).toInt)
          refine hB _ _ _ _ _ (fun m69 hm69 => ?_)
          dsimp only [ucgo, ucwp, ucsC, uqC, uoC, ctC, rfd, KX2_behindSwitch, KX2_behindSwitch_0, KX2_behindSwitch_25, KX2_behindSwitch_30, KX2_behindSwitch_40, KX2_behindSwitch_50, KX2_behindSwitch_69, KX2_behindSwitch_73, KX2_behindSwitch_74, KX2_behindSwitch_80, KX2_behindSwitch_90, KX2_behindSwitch_100, KX2_behindSwitch_105, KX2_behindSwitch_110, KX2_behindSwitch_115, lkC, s1C, s2C, dlC, kyC, Nat.beq, Nat.ble, rcd, rno, rsw, Nat.reduceAdd, Nat.reduceBEq, Nat.reduceDiv, List.drop, List.take, List.reverse, List.reverseAux, Int.toNat, Option.toList, List.append, List.cons_append, List.nil_append, zg270, zg275, zg276, zg279, zg287]
          intro a70 e70 ob70
          obtain rfl : B j52 = a70 := Option.some.inj ((h52.trans (congrArg some hb52)).symm.trans e70)
          have f71 : (fIC s0 (B j52) 270).toInt = kjS z j52 := o63_0.1.1.1
          have c72 : (Int32.ofInt 63).toInt = 63 := by decide
          refine ⟨fun h73 => ?_, fun h73 => ?_⟩
          · have g73 := (neI (x := (fIC s0 (B j52) 270)) (y := (Int32.ofInt 63)) h73 : ¬ ((fIC s0 (B j52) 270) : Int32).toInt = ((Int32.ofInt 63) : Int32).toInt)
            refine hB _ _ _ _ _ (fun m74 hm74 => ?_)
            dsimp only [ucgo, ucwp, ucsC, uqC, uoC, ctC, rfd, KX2_behindSwitch, KX2_behindSwitch_0, KX2_behindSwitch_25, KX2_behindSwitch_30, KX2_behindSwitch_40, KX2_behindSwitch_50, KX2_behindSwitch_69, KX2_behindSwitch_73, KX2_behindSwitch_74, KX2_behindSwitch_80, KX2_behindSwitch_90, KX2_behindSwitch_100, KX2_behindSwitch_105, KX2_behindSwitch_110, KX2_behindSwitch_115, lkC, s1C, s2C, dlC, kyC, Nat.beq, Nat.ble, rcd, rno, rsw, Nat.reduceAdd, Nat.reduceBEq, Nat.reduceDiv, List.drop, List.take, List.reverse, List.reverseAux, Int.toNat, Option.toList, List.append, List.cons_append, List.nil_append, zg270, zg275, zg276, zg279, zg287]
            have c75 : (Int32.ofInt 0).toInt = 0 := by decide
            refine hB _ _ _ _ _ (fun m76 hm76 => ?_)
            dsimp only [ucgo, ucwp, ucsC, uqC, uoC, ctC, rfd, KX2_behindSwitch, KX2_behindSwitch_0, KX2_behindSwitch_25, KX2_behindSwitch_30, KX2_behindSwitch_40, KX2_behindSwitch_50, KX2_behindSwitch_69, KX2_behindSwitch_73, KX2_behindSwitch_74, KX2_behindSwitch_80, KX2_behindSwitch_90, KX2_behindSwitch_100, KX2_behindSwitch_105, KX2_behindSwitch_110, KX2_behindSwitch_115, lkC, s1C, s2C, dlC, kyC, Nat.beq, Nat.ble, rcd, rno, rsw, Nat.reduceAdd, Nat.reduceBEq, Nat.reduceDiv, List.drop, List.take, List.reverse, List.reverseAux, Int.toNat, Option.toList, List.append, List.cons_append, List.nil_append, zg270, zg275, zg276, zg279, zg287]
            have io77 : (dd ||| (Int32.ofInt 0)).toInt = bZI (d9 || false) := ior_b (show (dd : Int32).toInt = bZI d9 by first | omega | (rw [show bZI false = 0 from rfl]; omega) | (rw [show bZI true = 1 from rfl]; omega)) (show ((Int32.ofInt 0) : Int32).toInt = bZI false by first | omega | (rw [show bZI false = 0 from rfl]; omega) | (rw [show bZI true = 1 from rfl]; omega))
            refine hB _ _ _ _ _ (fun m78 hm78 => ?_)
            dsimp only [ucgo, ucwp, ucsC, uqC, uoC, ctC, rfd, KX2_behindSwitch, KX2_behindSwitch_0, KX2_behindSwitch_25, KX2_behindSwitch_30, KX2_behindSwitch_40, KX2_behindSwitch_50, KX2_behindSwitch_69, KX2_behindSwitch_73, KX2_behindSwitch_74, KX2_behindSwitch_80, KX2_behindSwitch_90, KX2_behindSwitch_100, KX2_behindSwitch_105, KX2_behindSwitch_110, KX2_behindSwitch_115, lkC, s1C, s2C, dlC, kyC, Nat.beq, Nat.ble, rcd, rno, rsw, Nat.reduceAdd, Nat.reduceBEq, Nat.reduceDiv, List.drop, List.take, List.reverse, List.reverseAux, Int.toNat, Option.toList, List.append, List.cons_append, List.nil_append, zg270, zg275, zg276, zg279, zg287]
            intro a79 e79 ob79
            obtain rfl : B j52 = a79 := Option.some.inj ((h52.trans (congrArg some hb52)).symm.trans e79)
            have f80 : (fRC s0 (B j52) 275) = opA B (njS z j52) := o63_0.1.2.1
            rw [f80]
            exact hW _ 25 [(0, .inr (.inr (some (E 4)))), (1, .inr (.inr (some p1))), (4, .inr (.inl c9)), (6, .inr (.inl (m9 &&& c9))), (8, .inl (dd ||| (Int32.ofInt 0))), (9, .inr (.inr (opA B (njS z j52))))] _ _ _ (List.forall_mem_cons.2 ⟨List.Mem.tail _ (List.Mem.tail _ (List.Mem.tail _ (List.Mem.head _))), List.forall_mem_cons.2 ⟨List.Mem.tail _ (List.Mem.tail _ (List.Mem.tail _ (List.Mem.tail _ (List.Mem.head _)))), List.forall_mem_cons.2 ⟨List.Mem.tail _ (List.Mem.tail _ (List.Mem.tail _ (List.Mem.tail _ (List.Mem.tail _ (List.Mem.head _))))), List.forall_mem_cons.2 ⟨List.Mem.tail _ (List.Mem.tail _ (List.Mem.head _)), List.forall_mem_cons.2 ⟨List.Mem.tail _ (List.Mem.head _), List.forall_mem_cons.2 ⟨List.Mem.head _, fun _ h => absurd h List.not_mem_nil⟩⟩⟩⟩⟩⟩) (ih _ (by omega) s0 c9 (m9 &&& c9) (dd ||| (Int32.ofInt 0)) (njS z j52) (d9 || false) g9 k9 hF0 hG9 (by omega) (by have := (hwf j52 hl52).1; omega) (fun q9 => by have := hup j hj; have := hup j52 hl52; omega) (heq.trans (by rw [as_s1 (by omega), decide_eq_false (show ¬ kjS z j52 = 63 by omega)])))
          · have g73 := (eqI (x := (fIC s0 (B j52) 270)) (y := (Int32.ofInt 63)) h73 : ((fIC s0 (B j52) 270) : Int32).toInt = ((Int32.ofInt 63) : Int32).toInt)
            refine hB _ _ _ _ _ (fun m81 hm81 => ?_)
            dsimp only [ucgo, ucwp, ucsC, uqC, uoC, ctC, rfd, KX2_behindSwitch, KX2_behindSwitch_0, KX2_behindSwitch_25, KX2_behindSwitch_30, KX2_behindSwitch_40, KX2_behindSwitch_50, KX2_behindSwitch_69, KX2_behindSwitch_73, KX2_behindSwitch_74, KX2_behindSwitch_80, KX2_behindSwitch_90, KX2_behindSwitch_100, KX2_behindSwitch_105, KX2_behindSwitch_110, KX2_behindSwitch_115, lkC, s1C, s2C, dlC, kyC, Nat.beq, Nat.ble, rcd, rno, rsw, Nat.reduceAdd, Nat.reduceBEq, Nat.reduceDiv, List.drop, List.take, List.reverse, List.reverseAux, Int.toNat, Option.toList, List.append, List.cons_append, List.nil_append, zg270, zg275, zg276, zg279, zg287]
            have c82 : (Int32.ofInt 1).toInt = 1 := by decide
            refine hB _ _ _ _ _ (fun m83 hm83 => ?_)
            dsimp only [ucgo, ucwp, ucsC, uqC, uoC, ctC, rfd, KX2_behindSwitch, KX2_behindSwitch_0, KX2_behindSwitch_25, KX2_behindSwitch_30, KX2_behindSwitch_40, KX2_behindSwitch_50, KX2_behindSwitch_69, KX2_behindSwitch_73, KX2_behindSwitch_74, KX2_behindSwitch_80, KX2_behindSwitch_90, KX2_behindSwitch_100, KX2_behindSwitch_105, KX2_behindSwitch_110, KX2_behindSwitch_115, lkC, s1C, s2C, dlC, kyC, Nat.beq, Nat.ble, rcd, rno, rsw, Nat.reduceAdd, Nat.reduceBEq, Nat.reduceDiv, List.drop, List.take, List.reverse, List.reverseAux, Int.toNat, Option.toList, List.append, List.cons_append, List.nil_append, zg270, zg275, zg276, zg279, zg287]
            have io84 : (dd ||| (Int32.ofInt 1)).toInt = bZI (d9 || true) := ior_b (show (dd : Int32).toInt = bZI d9 by first | omega | (rw [show bZI false = 0 from rfl]; omega) | (rw [show bZI true = 1 from rfl]; omega)) (show ((Int32.ofInt 1) : Int32).toInt = bZI true by first | omega | (rw [show bZI false = 0 from rfl]; omega) | (rw [show bZI true = 1 from rfl]; omega))
            refine hB _ _ _ _ _ (fun m85 hm85 => ?_)
            dsimp only [ucgo, ucwp, ucsC, uqC, uoC, ctC, rfd, KX2_behindSwitch, KX2_behindSwitch_0, KX2_behindSwitch_25, KX2_behindSwitch_30, KX2_behindSwitch_40, KX2_behindSwitch_50, KX2_behindSwitch_69, KX2_behindSwitch_73, KX2_behindSwitch_74, KX2_behindSwitch_80, KX2_behindSwitch_90, KX2_behindSwitch_100, KX2_behindSwitch_105, KX2_behindSwitch_110, KX2_behindSwitch_115, lkC, s1C, s2C, dlC, kyC, Nat.beq, Nat.ble, rcd, rno, rsw, Nat.reduceAdd, Nat.reduceBEq, Nat.reduceDiv, List.drop, List.take, List.reverse, List.reverseAux, Int.toNat, Option.toList, List.append, List.cons_append, List.nil_append, zg270, zg275, zg276, zg279, zg287]
            intro a86 e86 ob86
            obtain rfl : B j52 = a86 := Option.some.inj ((h52.trans (congrArg some hb52)).symm.trans e86)
            have f87 : (fRC s0 (B j52) 275) = opA B (njS z j52) := o63_0.1.2.1
            rw [f87]
            exact hW _ 25 [(0, .inr (.inr (some (E 4)))), (1, .inr (.inr (some p1))), (4, .inr (.inl c9)), (6, .inr (.inl (m9 &&& c9))), (8, .inl (dd ||| (Int32.ofInt 1))), (9, .inr (.inr (opA B (njS z j52))))] _ _ _ (List.forall_mem_cons.2 ⟨List.Mem.tail _ (List.Mem.tail _ (List.Mem.tail _ (List.Mem.head _))), List.forall_mem_cons.2 ⟨List.Mem.tail _ (List.Mem.tail _ (List.Mem.tail _ (List.Mem.tail _ (List.Mem.head _)))), List.forall_mem_cons.2 ⟨List.Mem.tail _ (List.Mem.tail _ (List.Mem.tail _ (List.Mem.tail _ (List.Mem.tail _ (List.Mem.head _))))), List.forall_mem_cons.2 ⟨List.Mem.tail _ (List.Mem.tail _ (List.Mem.head _)), List.forall_mem_cons.2 ⟨List.Mem.tail _ (List.Mem.head _), List.forall_mem_cons.2 ⟨List.Mem.head _, fun _ h => absurd h List.not_mem_nil⟩⟩⟩⟩⟩⟩) (ih _ (by omega) s0 c9 (m9 &&& c9) (dd ||| (Int32.ofInt 1)) (njS z j52) (d9 || true) g9 k9 hF0 hG9 (by omega) (by have := (hwf j52 hl52).1; omega) (fun q9 => by have := hup j hj; have := hup j52 hl52; omega) (heq.trans (by rw [as_s1 (by omega), decide_eq_true (show kjS z j52 = 63 by omega)])))
        · have g68 := (neI (x := (fIC s0 (B j52) 270)) (y := (Int32.ofInt 62)) h68 : ¬ ((fIC s0 (B j52) 270) : Int32).toInt = ((Int32.ofInt 62) : Int32).toInt)
          refine hB _ _ _ _ _ (fun m88 hm88 => ?_)
          dsimp only [ucgo, ucwp, ucsC, uqC, uoC, ctC, rfd, KX2_behindSwitch, KX2_behindSwitch_0, KX2_behindSwitch_25, KX2_behindSwitch_30, KX2_behindSwitch_40, KX2_behindSwitch_50, KX2_behindSwitch_69, KX2_behindSwitch_73, KX2_behindSwitch_74, KX2_behindSwitch_80, KX2_behindSwitch_90, KX2_behindSwitch_100, KX2_behindSwitch_105, KX2_behindSwitch_110, KX2_behindSwitch_115, lkC, s1C, s2C, dlC, kyC, Nat.beq, Nat.ble, rcd, rno, rsw, Nat.reduceAdd, Nat.reduceBEq, Nat.reduceDiv, List.drop, List.take, List.reverse, List.reverseAux, Int.toNat, Option.toList, List.append, List.cons_append, List.nil_append, zg270, zg275, zg276, zg279, zg287]
          intro a89 e89 ob89
          obtain rfl : B j52 = a89 := Option.some.inj ((h52.trans (congrArg some hb52)).symm.trans e89)
          have f90 : (fIC s0 (B j52) 270).toInt = kjS z j52 := o63_0.1.1.1
          have c91 : (Int32.ofInt 63).toInt = 63 := by decide
          refine ⟨fun h92 => ?_, fun h92 => ?_⟩
          · have g92 := (neI (x := (fIC s0 (B j52) 270)) (y := (Int32.ofInt 63)) h92 : ¬ ((fIC s0 (B j52) 270) : Int32).toInt = ((Int32.ofInt 63) : Int32).toInt)
            refine hB _ _ _ _ _ (fun m93 hm93 => ?_)
            dsimp only [ucgo, ucwp, ucsC, uqC, uoC, ctC, rfd, KX2_behindSwitch, KX2_behindSwitch_0, KX2_behindSwitch_25, KX2_behindSwitch_30, KX2_behindSwitch_40, KX2_behindSwitch_50, KX2_behindSwitch_69, KX2_behindSwitch_73, KX2_behindSwitch_74, KX2_behindSwitch_80, KX2_behindSwitch_90, KX2_behindSwitch_100, KX2_behindSwitch_105, KX2_behindSwitch_110, KX2_behindSwitch_115, lkC, s1C, s2C, dlC, kyC, Nat.beq, Nat.ble, rcd, rno, rsw, Nat.reduceAdd, Nat.reduceBEq, Nat.reduceDiv, List.drop, List.take, List.reverse, List.reverseAux, Int.toNat, Option.toList, List.append, List.cons_append, List.nil_append, zg270, zg275, zg276, zg279, zg287]
            intro w94 τ94 o94 q94
            rw [(h52.trans (congrArg some hb52))] at q94 o94
            obtain ⟨v94, rfl, hv94, hG94⟩ := q94 (N, E, A, B, V, z, T, ms, nm, j52, g9, k9) ⟨_, _, rfl, hSs_0, hPf_0, hTg_0, ⟨hwf, hup, hBi, hsx⟩, hl52, rfl, hG9, (by have := hup j hj; have := hup j52 hl52; omega)⟩
            have hF94 : FrE [91, 92, 94, 217, 218, 285, 286, 287, 288, 901] σ τ94 := hF0.tr (o94.2.mo rfl)
            have hSs_94 := SsC.fr hSs hF94 rfl
            have hPf_94 := PfC.fr hPf hF94 rfl
            have hTg_94 := TgC.fr hTg hF94 rfl
            have op_94 : SlC A B τ94 z j p1 ∧ p1 < cnC τ94 := by rw [hp]; exact hSs_94.1 j hj
            have o63_94 := hSs_94.1 j52 hl52
            obtain ⟨Q94, hQ94⟩ : ∃ q, (asF N z T k9).2.2 j52 m9 g9 = q := ⟨_, rfl⟩
            rw [hQ94] at hv94 hG94
            try dsimp only [Option.toList, List.cons_append, List.nil_append, s1C, s2C, dlC, kyC, Nat.beq, lkC, rcd, rno, rsw]
            refine hB _ _ _ _ _ (fun m95 hm95 => ?_)
            dsimp only [ucgo, ucwp, ucsC, uqC, uoC, ctC, rfd, KX2_behindSwitch, KX2_behindSwitch_0, KX2_behindSwitch_25, KX2_behindSwitch_30, KX2_behindSwitch_40, KX2_behindSwitch_50, KX2_behindSwitch_69, KX2_behindSwitch_73, KX2_behindSwitch_74, KX2_behindSwitch_80, KX2_behindSwitch_90, KX2_behindSwitch_100, KX2_behindSwitch_105, KX2_behindSwitch_110, KX2_behindSwitch_115, lkC, s1C, s2C, dlC, kyC, Nat.beq, Nat.ble, rcd, rno, rsw, Nat.reduceAdd, Nat.reduceBEq, Nat.reduceDiv, List.drop, List.take, List.reverse, List.reverseAux, Int.toNat, Option.toList, List.append, List.cons_append, List.nil_append, zg270, zg275, zg276, zg279, zg287]
            intro a96 e96 ob96
            obtain rfl : B j52 = a96 := Option.some.inj ((h52.trans (congrArg some hb52)).symm.trans e96)
            have f97 : (fRC τ94 (B j52) 275) = opA B (njS z j52) := o63_94.1.2.1
            rw [f97]
            rw [hv94]
            exact hW _ 25 [(0, .inr (.inr (some (E 4)))), (1, .inr (.inr (some p1))), (4, .inr (.inl c9)), (6, .inr (.inl Q94.1)), (8, .inl dd), (9, .inr (.inr (opA B (njS z j52))))] _ _ _ (List.forall_mem_cons.2 ⟨List.Mem.tail _ (List.Mem.tail _ (List.Mem.head _)), List.forall_mem_cons.2 ⟨List.Mem.tail _ (List.Mem.tail _ (List.Mem.tail _ (List.Mem.head _))), List.forall_mem_cons.2 ⟨List.Mem.tail _ (List.Mem.tail _ (List.Mem.tail _ (List.Mem.tail _ (List.Mem.head _)))), List.forall_mem_cons.2 ⟨List.Mem.tail _ (List.Mem.head _), List.forall_mem_cons.2 ⟨List.Mem.tail _ (List.Mem.tail _ (List.Mem.tail _ (List.Mem.tail _ (List.Mem.tail _ (List.Mem.head _))))), List.forall_mem_cons.2 ⟨List.Mem.head _, fun _ h => absurd h List.not_mem_nil⟩⟩⟩⟩⟩⟩) (ih _ (by omega) τ94 c9 Q94.1 dd (njS z j52) d9 Q94.2 k9 hF94 hG94 hdd (by have := (hwf j52 hl52).1; omega) (fun q9 => by have := hup j hj; have := hup j52 hl52; omega) (heq.trans (by rw [as_s2 (by omega), hQ94])))
          · have g92 := (eqI (x := (fIC s0 (B j52) 270)) (y := (Int32.ofInt 63)) h92 : ((fIC s0 (B j52) 270) : Int32).toInt = ((Int32.ofInt 63) : Int32).toInt)
            refine hB _ _ _ _ _ (fun m98 hm98 => ?_)
            dsimp only [ucgo, ucwp, ucsC, uqC, uoC, ctC, rfd, KX2_behindSwitch, KX2_behindSwitch_0, KX2_behindSwitch_25, KX2_behindSwitch_30, KX2_behindSwitch_40, KX2_behindSwitch_50, KX2_behindSwitch_69, KX2_behindSwitch_73, KX2_behindSwitch_74, KX2_behindSwitch_80, KX2_behindSwitch_90, KX2_behindSwitch_100, KX2_behindSwitch_105, KX2_behindSwitch_110, KX2_behindSwitch_115, lkC, s1C, s2C, dlC, kyC, Nat.beq, Nat.ble, rcd, rno, rsw, Nat.reduceAdd, Nat.reduceBEq, Nat.reduceDiv, List.drop, List.take, List.reverse, List.reverseAux, Int.toNat, Option.toList, List.append, List.cons_append, List.nil_append, zg270, zg275, zg276, zg279, zg287]
            intro a99 e99 ob99
            obtain rfl : B j52 = a99 := Option.some.inj ((h52.trans (congrArg some hb52)).symm.trans e99)
            have f100 : (fIC s0 (B j52) 270).toInt = kjS z j52 := o63_0.1.1.1
            have c101 : (Int32.ofInt 63).toInt = 63 := by decide
            refine ⟨fun h102 => ?_, fun h102 => ?_⟩
            · have g102 := (neI (x := (fIC s0 (B j52) 270)) (y := (Int32.ofInt 63)) h102 : ¬ ((fIC s0 (B j52) 270) : Int32).toInt = ((Int32.ofInt 63) : Int32).toInt)
              refine hB _ _ _ _ _ (fun m103 hm103 => ?_)
              dsimp only [ucgo, ucwp, ucsC, uqC, uoC, ctC, rfd, KX2_behindSwitch, KX2_behindSwitch_0, KX2_behindSwitch_25, KX2_behindSwitch_30, KX2_behindSwitch_40, KX2_behindSwitch_50, KX2_behindSwitch_69, KX2_behindSwitch_73, KX2_behindSwitch_74, KX2_behindSwitch_80, KX2_behindSwitch_90, KX2_behindSwitch_100, KX2_behindSwitch_105, KX2_behindSwitch_110, KX2_behindSwitch_115, lkC, s1C, s2C, dlC, kyC, Nat.beq, Nat.ble, rcd, rno, rsw, Nat.reduceAdd, Nat.reduceBEq, Nat.reduceDiv, List.drop, List.take, List.reverse, List.reverseAux, Int.toNat, Option.toList, List.append, List.cons_append, List.nil_append, zg270, zg275, zg276, zg279, zg287]
              have c104 : (Int32.ofInt 0).toInt = 0 := by decide
              refine hB _ _ _ _ _ (fun m105 hm105 => ?_)
              dsimp only [ucgo, ucwp, ucsC, uqC, uoC, ctC, rfd, KX2_behindSwitch, KX2_behindSwitch_0, KX2_behindSwitch_25, KX2_behindSwitch_30, KX2_behindSwitch_40, KX2_behindSwitch_50, KX2_behindSwitch_69, KX2_behindSwitch_73, KX2_behindSwitch_74, KX2_behindSwitch_80, KX2_behindSwitch_90, KX2_behindSwitch_100, KX2_behindSwitch_105, KX2_behindSwitch_110, KX2_behindSwitch_115, lkC, s1C, s2C, dlC, kyC, Nat.beq, Nat.ble, rcd, rno, rsw, Nat.reduceAdd, Nat.reduceBEq, Nat.reduceDiv, List.drop, List.take, List.reverse, List.reverseAux, Int.toNat, Option.toList, List.append, List.cons_append, List.nil_append, zg270, zg275, zg276, zg279, zg287]
              have io106 : (dd ||| (Int32.ofInt 0)).toInt = bZI (d9 || false) := ior_b (show (dd : Int32).toInt = bZI d9 by first | omega | (rw [show bZI false = 0 from rfl]; omega) | (rw [show bZI true = 1 from rfl]; omega)) (show ((Int32.ofInt 0) : Int32).toInt = bZI false by first | omega | (rw [show bZI false = 0 from rfl]; omega) | (rw [show bZI true = 1 from rfl]; omega))
              refine hB _ _ _ _ _ (fun m107 hm107 => ?_)
              dsimp only [ucgo, ucwp, ucsC, uqC, uoC, ctC, rfd, KX2_behindSwitch, KX2_behindSwitch_0, KX2_behindSwitch_25, KX2_behindSwitch_30, KX2_behindSwitch_40, KX2_behindSwitch_50, KX2_behindSwitch_69, KX2_behindSwitch_73, KX2_behindSwitch_74, KX2_behindSwitch_80, KX2_behindSwitch_90, KX2_behindSwitch_100, KX2_behindSwitch_105, KX2_behindSwitch_110, KX2_behindSwitch_115, lkC, s1C, s2C, dlC, kyC, Nat.beq, Nat.ble, rcd, rno, rsw, Nat.reduceAdd, Nat.reduceBEq, Nat.reduceDiv, List.drop, List.take, List.reverse, List.reverseAux, Int.toNat, Option.toList, List.append, List.cons_append, List.nil_append, zg270, zg275, zg276, zg279, zg287]
              intro a108 e108 ob108
              obtain rfl : B j52 = a108 := Option.some.inj ((h52.trans (congrArg some hb52)).symm.trans e108)
              have f109 : (fRC s0 (B j52) 275) = opA B (njS z j52) := o63_0.1.2.1
              rw [f109]
              exact hW _ 25 [(0, .inr (.inr (some (E 4)))), (1, .inr (.inr (some p1))), (4, .inr (.inl c9)), (6, .inr (.inl (m9 &&& c9))), (8, .inl (dd ||| (Int32.ofInt 0))), (9, .inr (.inr (opA B (njS z j52))))] _ _ _ (List.forall_mem_cons.2 ⟨List.Mem.tail _ (List.Mem.tail _ (List.Mem.tail _ (List.Mem.head _))), List.forall_mem_cons.2 ⟨List.Mem.tail _ (List.Mem.tail _ (List.Mem.tail _ (List.Mem.tail _ (List.Mem.head _)))), List.forall_mem_cons.2 ⟨List.Mem.tail _ (List.Mem.tail _ (List.Mem.tail _ (List.Mem.tail _ (List.Mem.tail _ (List.Mem.head _))))), List.forall_mem_cons.2 ⟨List.Mem.tail _ (List.Mem.tail _ (List.Mem.head _)), List.forall_mem_cons.2 ⟨List.Mem.tail _ (List.Mem.head _), List.forall_mem_cons.2 ⟨List.Mem.head _, fun _ h => absurd h List.not_mem_nil⟩⟩⟩⟩⟩⟩) (ih _ (by omega) s0 c9 (m9 &&& c9) (dd ||| (Int32.ofInt 0)) (njS z j52) (d9 || false) g9 k9 hF0 hG9 (by omega) (by have := (hwf j52 hl52).1; omega) (fun q9 => by have := hup j hj; have := hup j52 hl52; omega) (heq.trans (by rw [as_s1 (by omega), decide_eq_false (show ¬ kjS z j52 = 63 by omega)])))
            · have g102 := (eqI (x := (fIC s0 (B j52) 270)) (y := (Int32.ofInt 63)) h102 : ((fIC s0 (B j52) 270) : Int32).toInt = ((Int32.ofInt 63) : Int32).toInt)
              refine hB _ _ _ _ _ (fun m110 hm110 => ?_)
              dsimp only [ucgo, ucwp, ucsC, uqC, uoC, ctC, rfd, KX2_behindSwitch, KX2_behindSwitch_0, KX2_behindSwitch_25, KX2_behindSwitch_30, KX2_behindSwitch_40, KX2_behindSwitch_50, KX2_behindSwitch_69, KX2_behindSwitch_73, KX2_behindSwitch_74, KX2_behindSwitch_80, KX2_behindSwitch_90, KX2_behindSwitch_100, KX2_behindSwitch_105, KX2_behindSwitch_110, KX2_behindSwitch_115, lkC, s1C, s2C, dlC, kyC, Nat.beq, Nat.ble, rcd, rno, rsw, Nat.reduceAdd, Nat.reduceBEq, Nat.reduceDiv, List.drop, List.take, List.reverse, List.reverseAux, Int.toNat, Option.toList, List.append, List.cons_append, List.nil_append, zg270, zg275, zg276, zg279, zg287]
              have c111 : (Int32.ofInt 1).toInt = 1 := by decide
              refine hB _ _ _ _ _ (fun m112 hm112 => ?_)
              dsimp only [ucgo, ucwp, ucsC, uqC, uoC, ctC, rfd, KX2_behindSwitch, KX2_behindSwitch_0, KX2_behindSwitch_25, KX2_behindSwitch_30, KX2_behindSwitch_40, KX2_behindSwitch_50, KX2_behindSwitch_69, KX2_behindSwitch_73, KX2_behindSwitch_74, KX2_behindSwitch_80, KX2_behindSwitch_90, KX2_behindSwitch_100, KX2_behindSwitch_105, KX2_behindSwitch_110, KX2_behindSwitch_115, lkC, s1C, s2C, dlC, kyC, Nat.beq, Nat.ble, rcd, rno, rsw, Nat.reduceAdd, Nat.reduceBEq, Nat.reduceDiv, List.drop, List.take, List.reverse, List.reverseAux, Int.toNat, Option.toList, List.append, List.cons_append, List.nil_append, zg270, zg275, zg276, zg279, zg287]
              have io113 : (dd ||| (Int32.ofInt 1)).toInt = bZI (d9 || true) := ior_b (show (dd : Int32).toInt = bZI d9 by first | omega | (rw [show bZI false = 0 from rfl]; omega) | (rw [show bZI true = 1 from rfl]; omega)) (show ((Int32.ofInt 1) : Int32).toInt = bZI true by first | omega | (rw [show bZI false = 0 from rfl]; omega) | (rw [show bZI true = 1 from rfl]; omega))
              refine hB _ _ _ _ _ (fun m114 hm114 => ?_)
              dsimp only [ucgo, ucwp, ucsC, uqC, uoC, ctC, rfd, KX2_behindSwitch, KX2_behindSwitch_0, KX2_behindSwitch_25, KX2_behindSwitch_30, KX2_behindSwitch_40, KX2_behindSwitch_50, KX2_behindSwitch_69, KX2_behindSwitch_73, KX2_behindSwitch_74, KX2_behindSwitch_80, KX2_behindSwitch_90, KX2_behindSwitch_100, KX2_behindSwitch_105, KX2_behindSwitch_110, KX2_behindSwitch_115, lkC, s1C, s2C, dlC, kyC, Nat.beq, Nat.ble, rcd, rno, rsw, Nat.reduceAdd, Nat.reduceBEq, Nat.reduceDiv, List.drop, List.take, List.reverse, List.reverseAux, Int.toNat, Option.toList, List.append, List.cons_append, List.nil_append, zg270, zg275, zg276, zg279, zg287]
              intro a115 e115 ob115
              obtain rfl : B j52 = a115 := Option.some.inj ((h52.trans (congrArg some hb52)).symm.trans e115)
              have f116 : (fRC s0 (B j52) 275) = opA B (njS z j52) := o63_0.1.2.1
              rw [f116]
              exact hW _ 25 [(0, .inr (.inr (some (E 4)))), (1, .inr (.inr (some p1))), (4, .inr (.inl c9)), (6, .inr (.inl (m9 &&& c9))), (8, .inl (dd ||| (Int32.ofInt 1))), (9, .inr (.inr (opA B (njS z j52))))] _ _ _ (List.forall_mem_cons.2 ⟨List.Mem.tail _ (List.Mem.tail _ (List.Mem.tail _ (List.Mem.head _))), List.forall_mem_cons.2 ⟨List.Mem.tail _ (List.Mem.tail _ (List.Mem.tail _ (List.Mem.tail _ (List.Mem.head _)))), List.forall_mem_cons.2 ⟨List.Mem.tail _ (List.Mem.tail _ (List.Mem.tail _ (List.Mem.tail _ (List.Mem.tail _ (List.Mem.head _))))), List.forall_mem_cons.2 ⟨List.Mem.tail _ (List.Mem.tail _ (List.Mem.head _)), List.forall_mem_cons.2 ⟨List.Mem.tail _ (List.Mem.head _), List.forall_mem_cons.2 ⟨List.Mem.head _, fun _ h => absurd h List.not_mem_nil⟩⟩⟩⟩⟩⟩) (ih _ (by omega) s0 c9 (m9 &&& c9) (dd ||| (Int32.ofInt 1)) (njS z j52) (d9 || true) g9 k9 hF0 hG9 (by omega) (by have := (hwf j52 hl52).1; omega) (fun q9 => by have := hup j hj; have := hup j52 hl52; omega) (heq.trans (by rw [as_s1 (by omega), decide_eq_true (show kjS z j52 = 63 by omega)])))
  change K n_ 0 [(0, .inr (.inr (some (E 4)))), (1, .inr (.inr (some p1))), (2, .inr (.inl p2))] [] σ
  refine hB _ _ _ _ _ (fun m117 hm117 => ?_)
  dsimp only [ucgo, ucwp, ucsC, uqC, uoC, ctC, rfd, KX2_behindSwitch, KX2_behindSwitch_0, KX2_behindSwitch_25, KX2_behindSwitch_30, KX2_behindSwitch_40, KX2_behindSwitch_50, KX2_behindSwitch_69, KX2_behindSwitch_73, KX2_behindSwitch_74, KX2_behindSwitch_80, KX2_behindSwitch_90, KX2_behindSwitch_100, KX2_behindSwitch_105, KX2_behindSwitch_110, KX2_behindSwitch_115, lkC, s1C, s2C, dlC, kyC, Nat.beq, Nat.ble, rcd, rno, rsw, Nat.reduceAdd, Nat.reduceBEq, Nat.reduceDiv, List.drop, List.take, List.reverse, List.reverseAux, Int.toNat, Option.toList, List.append, List.cons_append, List.nil_append, zg270, zg275, zg276, zg279, zg287]
  intro a118 e118 ob118
  cases e118
  have f119 : (fRC σ p1 279) = opA A (xjS z j) := op.1.2.2.2.2.2.1
  intro w120 τ120 o120 q120
  obtain ⟨v120, rfl, hv120, hWh120⟩ := q120 (N, E, A, B, V, z, T, ms, nm, g.2.2.2.2, xjS z j) ⟨_, _, rfl, hSs, hPf, hG.2, f119, (by have := (hwf j hj).2.1; omega), hsx⟩
  have hG120 := AzC.w hG o120.2 (fun j9 h9 => (hSs.1 j9 h9).2) hWh120
  have hv120 : v120 = (exB z T (xjS z j) p2 g).1 := hv120
  have hG120 : AzC E B τ120 z (exB z T (xjS z j) p2 g).2 := hG120
  have hF120 : FrE [91, 92, 94, 217, 218, 285, 286, 287, 288, 901] σ τ120 := FrE.mo o120.2 rfl
  have hSs_120 := SsC.fr hSs hF120 rfl
  have hPf_120 := PfC.fr hPf hF120 rfl
  have hTg_120 := TgC.fr hTg hF120 rfl
  have op_120 : SlC A B τ120 z j p1 ∧ p1 < cnC τ120 := by rw [hp]; exact hSs_120.1 j hj
  obtain ⟨Q120, hQ120⟩ : ∃ q, exB z T (xjS z j) p2 g = q := ⟨_, rfl⟩
  rw [hQ120] at hv120 hG120
  try dsimp only [Option.toList, List.cons_append, List.nil_append, s1C, s2C, dlC, kyC, Nat.beq, lkC, rcd, rno, rsw]
  have c121 : (Int32.ofInt 0).toInt = 0 := by decide
  intro a122 e122 ob122
  cases e122
  have f123 : (fRC τ120 p1 276) = opA B (bjS z j) := op_120.1.2.2.1
  rw [f123]
  exact hW _ 25 [(0, .inr (.inr (some (E 4)))), (1, .inr (.inr (some p1))), (4, .inr (.inl v120)), (6, .inr (.inl (Int64.ofInt (-1)))), (8, .inl (Int32.ofInt 0)), (9, .inr (.inr (opA B (bjS z j))))] _ _ _ (List.forall_mem_cons.2 ⟨List.Mem.tail _ (List.Mem.tail _ (List.Mem.tail _ (List.Mem.tail _ (List.Mem.head _)))), List.forall_mem_cons.2 ⟨List.Mem.tail _ (List.Mem.tail _ (List.Mem.tail _ (List.Mem.tail _ (List.Mem.tail _ (List.Mem.head _))))), List.forall_mem_cons.2 ⟨List.Mem.tail _ (List.Mem.tail _ (List.Mem.tail _ (List.Mem.head _))), List.forall_mem_cons.2 ⟨List.Mem.tail _ (List.Mem.tail _ (List.Mem.head _)), List.forall_mem_cons.2 ⟨List.Mem.tail _ (List.Mem.head _), List.forall_mem_cons.2 ⟨List.Mem.head _, fun _ h => absurd h List.not_mem_nil⟩⟩⟩⟩⟩⟩) (L25 _ τ120 v120 (Int64.ofInt (-1)) (Int32.ofInt 0) (bjS z j) false Q120.2 f hF120 hG120 (by show _ = (0 : Int); omega) (by have := (hwf j hj).1; omega) (fun q9 => by have := hup j hj; omega) (by unfold swA; rw [hQ120, hv120]; rfl))
set_option maxHeartbeats 4000000 in
theorem pz_behind (y : (Int → Int) × (Nat → Nat) × (Nat → Nat) × (Nat → Nat) × (Nat → Nat) × ZS × TbT × MfT × Nat × Nat × GzA × Nat) : PbC KX2_behind [(30, TrP, EqC 30), (31, TrP, EqC 31), (35, TrP, EqC 35), (36, TrP, EqC 36), (37, TrP, EqC 37), (34, TrP, EqC 34), (39, TrP, EqC 39), (38, TrP, EqC 38), (33, TrP, EqC 33)] [(30, Uz_assignRow), (31, Uz_assignBody), (35, Uz_behindIf), (36, Uz_behindLoop), (37, Uz_behindSwitch), (34, Uz_leadTo), (39, Uz_behindExp), (38, Uz_behindTry), (33, Uz_behindTold)] (fun As σ => Pz_behind y As σ ∧ cnC σ ≤ 1000000 ∧ ∃ w τ, uqC quL 32 As σ w τ) (Qz_behind y) := by
  obtain ⟨N, E, A, B, V, z, T, ms, nm, j, g, f⟩ := y
  rintro As σ ⟨⟨p1, p2, rfl, hSs, hPf, hTg, hwf, hj, hp, hG, hfu⟩, hcn, _, _, hQ⟩ K hB hW n_
  obtain ⟨hwf, hup, hBi, hsx⟩ := hwf
  have op : SlC A B σ z j p1 ∧ p1 < cnC σ := by rw [hp]; exact hSs.1 j hj
  change K n_ 0 [(0, .inr (.inr (some (E 4)))), (1, .inr (.inr (some p1))), (2, .inr (.inl p2))] [] σ
  refine hB _ _ _ _ _ (fun m51 hm51 => ?_)
  dsimp only [ucgo, ucwp, ucsC, uqC, uoC, ctC, rfd, KX2_behind, KX2_behind_0, KX2_behind_152, KX2_behind_162, KX2_behind_169, KX2_behind_179, KX2_behind_193, KX2_behind_203, KX2_behind_219, KX2_behind_226, KX2_behind_233, KX2_behind_240, KX2_behind_247, lkC, s1C, s2C, dlC, kyC, Nat.beq, Nat.ble, rcd, rno, rsw, Nat.reduceAdd, Nat.reduceBEq, Nat.reduceDiv, List.drop, List.take, List.reverse, List.reverseAux, Int.toNat, Option.toList, List.append, List.cons_append, List.nil_append, zg270, zg276, zg279, zg287]
  intro a52 e52 ob52
  cases e52
  have f53 : (fIC σ p1 270).toInt = kjS z j := op.1.1.1
  refine ⟨fun h54 => ?_, fun h54 => ?_⟩
  · have g54 : ((fIC σ p1 270) : Int32).toInt = 2 := h54
    refine hB _ _ _ _ _ (fun m55 hm55 => ?_)
    dsimp only [ucgo, ucwp, ucsC, uqC, uoC, ctC, rfd, KX2_behind, KX2_behind_0, KX2_behind_152, KX2_behind_162, KX2_behind_169, KX2_behind_179, KX2_behind_193, KX2_behind_203, KX2_behind_219, KX2_behind_226, KX2_behind_233, KX2_behind_240, KX2_behind_247, lkC, s1C, s2C, dlC, kyC, Nat.beq, Nat.ble, rcd, rno, rsw, Nat.reduceAdd, Nat.reduceBEq, Nat.reduceDiv, List.drop, List.take, List.reverse, List.reverseAux, Int.toNat, Option.toList, List.append, List.cons_append, List.nil_append, zg270, zg276, zg279, zg287]
    intro a56 e56 ob56
    cases e56
    have f57 : (fRC σ p1 276) = opA B (bjS z j) := op.1.2.2.1
    intro w58 τ58 o58 q58
    obtain ⟨v58, rfl, hv58, hG58⟩ := q58 (N, E, A, B, V, z, T, ms, nm, bjS z j, g, f) ⟨_, _, rfl, hSs, hPf, hTg, ⟨hwf, hup, hBi, hsx⟩, hG, f57, (by have := (hwf j hj).1; omega), (fun q9 => by have := hup j hj; omega)⟩
    have hF58 : FrE [91, 92, 94, 217, 218, 285, 286, 287, 288, 901] σ τ58 := FrE.mo o58.2 rfl
    have hSs_58 := SsC.fr hSs hF58 rfl
    have hPf_58 := PfC.fr hPf hF58 rfl
    have hTg_58 := TgC.fr hTg hF58 rfl
    have op_58 : SlC A B τ58 z j p1 ∧ p1 < cnC τ58 := by rw [hp]; exact hSs_58.1 j hj
    obtain ⟨Q58, hQ58⟩ : ∃ q, (asF N z T f).1 (bjS z j) p2 g = q := ⟨_, rfl⟩
    rw [hQ58] at hv58 hG58
    try dsimp only [Option.toList, List.cons_append, List.nil_append, s1C, s2C, dlC, kyC, Nat.beq, lkC, rcd, rno, rsw]
    try dsimp only [Qz_behind]
    have hfin : inA (asF N z T f) N z T j p2 g = (Q58.1, Q58.2) := by
      rw [ina_b (by omega), hQ58]
    rw [hfin]
    exact ⟨_, rfl, by simp only [hv58], hG58⟩
  have g54 : ¬ ((fIC σ p1 270) : Int32).toInt = 2 := h54
  refine ⟨fun h59 => ?_, fun h59 => ?_⟩
  · have g59 : ((fIC σ p1 270) : Int32).toInt = 6 := h59
    refine hB _ _ _ _ _ (fun m60 hm60 => ?_)
    dsimp only [ucgo, ucwp, ucsC, uqC, uoC, ctC, rfd, KX2_behind, KX2_behind_0, KX2_behind_152, KX2_behind_162, KX2_behind_169, KX2_behind_179, KX2_behind_193, KX2_behind_203, KX2_behind_219, KX2_behind_226, KX2_behind_233, KX2_behind_240, KX2_behind_247, lkC, s1C, s2C, dlC, kyC, Nat.beq, Nat.ble, rcd, rno, rsw, Nat.reduceAdd, Nat.reduceBEq, Nat.reduceDiv, List.drop, List.take, List.reverse, List.reverseAux, Int.toNat, Option.toList, List.append, List.cons_append, List.nil_append, zg270, zg276, zg279, zg287]
    intro w61 τ61 o61 q61
    obtain ⟨v61, rfl, hv61, hG61⟩ := q61 (N, E, A, B, V, z, T, ms, nm, j, g, f) ⟨_, _, rfl, hSs, hPf, hTg, ⟨hwf, hup, hBi, hsx⟩, hj, hp, hG, (by have := hup j hj; omega)⟩
    have hF61 : FrE [91, 92, 94, 217, 218, 285, 286, 287, 288, 901] σ τ61 := FrE.mo o61.2 rfl
    have hSs_61 := SsC.fr hSs hF61 rfl
    have hPf_61 := PfC.fr hPf hF61 rfl
    have hTg_61 := TgC.fr hTg hF61 rfl
    have op_61 : SlC A B τ61 z j p1 ∧ p1 < cnC τ61 := by rw [hp]; exact hSs_61.1 j hj
    obtain ⟨Q61, hQ61⟩ : ∃ q, bdA (asF N z T f) z j p2 g = q := ⟨_, rfl⟩
    rw [hQ61] at hv61 hG61
    try dsimp only [Option.toList, List.cons_append, List.nil_append, s1C, s2C, dlC, kyC, Nat.beq, lkC, rcd, rno, rsw]
    intro a62 e62 ob62
    cases e62
    have f63 : (fLC τ61 p1 287) = Q61.2.2.2.1 j := by rw [hp]; exact (hG61.1 j hj).2.2.1
    try dsimp only [Qz_behind]
    have hfin : inA (asF N z T f) N z T j p2 g = ((Q61.1 &&& (Q61.2.2.2.1 j)), Q61.2) := by
      rw [ina_l (by omega)]
      unfold laA
      rw [hQ61]
    rw [hfin]
    exact ⟨_, rfl, by simp only [f63, hv61], hG61⟩
  have g59 : ¬ ((fIC σ p1 270) : Int32).toInt = 6 := h59
  refine ⟨fun h64 => ?_, fun h64 => ?_⟩
  · have g64 : ((fIC σ p1 270) : Int32).toInt = 56 := h64
    refine hB _ _ _ _ _ (fun m65 hm65 => ?_)
    dsimp only [ucgo, ucwp, ucsC, uqC, uoC, ctC, rfd, KX2_behind, KX2_behind_0, KX2_behind_152, KX2_behind_162, KX2_behind_169, KX2_behind_179, KX2_behind_193, KX2_behind_203, KX2_behind_219, KX2_behind_226, KX2_behind_233, KX2_behind_240, KX2_behind_247, lkC, s1C, s2C, dlC, kyC, Nat.beq, Nat.ble, rcd, rno, rsw, Nat.reduceAdd, Nat.reduceBEq, Nat.reduceDiv, List.drop, List.take, List.reverse, List.reverseAux, Int.toNat, Option.toList, List.append, List.cons_append, List.nil_append, zg270, zg276, zg279, zg287]
    intro w66 τ66 o66 q66
    obtain ⟨v66, rfl, hv66, hG66⟩ := q66 (N, E, A, B, V, z, T, ms, nm, j, g, f) ⟨_, _, rfl, hSs, hPf, hTg, ⟨hwf, hup, hBi, hsx⟩, hj, hp, hG, (by have := hup j hj; omega)⟩
    have hF66 : FrE [91, 92, 94, 217, 218, 285, 286, 287, 288, 901] σ τ66 := FrE.mo o66.2 rfl
    have hSs_66 := SsC.fr hSs hF66 rfl
    have hPf_66 := PfC.fr hPf hF66 rfl
    have hTg_66 := TgC.fr hTg hF66 rfl
    have op_66 : SlC A B τ66 z j p1 ∧ p1 < cnC τ66 := by rw [hp]; exact hSs_66.1 j hj
    obtain ⟨Q66, hQ66⟩ : ∃ q, ifA (asF N z T f) z T j p2 g = q := ⟨_, rfl⟩
    rw [hQ66] at hv66 hG66
    try dsimp only [Option.toList, List.cons_append, List.nil_append, s1C, s2C, dlC, kyC, Nat.beq, lkC, rcd, rno, rsw]
    try dsimp only [Qz_behind]
    have hfin : inA (asF N z T f) N z T j p2 g = (Q66.1, Q66.2) := by
      rw [ina_i (by omega), hQ66]
    rw [hfin]
    exact ⟨_, rfl, by simp only [hv66], hG66⟩
  have g64 : ¬ ((fIC σ p1 270) : Int32).toInt = 56 := h64
  refine ⟨fun h67 => ?_, fun h67 => ?_⟩
  · have g67 : ((fIC σ p1 270) : Int32).toInt = 58 := h67
    refine hB _ _ _ _ _ (fun m68 hm68 => ?_)
    dsimp only [ucgo, ucwp, ucsC, uqC, uoC, ctC, rfd, KX2_behind, KX2_behind_0, KX2_behind_152, KX2_behind_162, KX2_behind_169, KX2_behind_179, KX2_behind_193, KX2_behind_203, KX2_behind_219, KX2_behind_226, KX2_behind_233, KX2_behind_240, KX2_behind_247, lkC, s1C, s2C, dlC, kyC, Nat.beq, Nat.ble, rcd, rno, rsw, Nat.reduceAdd, Nat.reduceBEq, Nat.reduceDiv, List.drop, List.take, List.reverse, List.reverseAux, Int.toNat, Option.toList, List.append, List.cons_append, List.nil_append, zg270, zg276, zg279, zg287]
    intro w69 τ69 o69 q69
    obtain ⟨v69, rfl, hv69, hG69⟩ := q69 (N, E, A, B, V, z, T, ms, nm, j, g, f) ⟨_, _, rfl, hSs, hPf, hTg, ⟨hwf, hup, hBi, hsx⟩, hj, hp, hG, (by have := hup j hj; omega), by omega⟩
    have hF69 : FrE [91, 92, 94, 217, 218, 285, 286, 287, 288, 901] σ τ69 := FrE.mo o69.2 rfl
    have hSs_69 := SsC.fr hSs hF69 rfl
    have hPf_69 := PfC.fr hPf hF69 rfl
    have hTg_69 := TgC.fr hTg hF69 rfl
    have op_69 : SlC A B τ69 z j p1 ∧ p1 < cnC τ69 := by rw [hp]; exact hSs_69.1 j hj
    obtain ⟨Q69, hQ69⟩ : ∃ q, lpA (asF N z T f) z T j p2 g = q := ⟨_, rfl⟩
    rw [hQ69] at hv69 hG69
    try dsimp only [Option.toList, List.cons_append, List.nil_append, s1C, s2C, dlC, kyC, Nat.beq, lkC, rcd, rno, rsw]
    try dsimp only [Qz_behind]
    have hfin : inA (asF N z T f) N z T j p2 g = (Q69.1, Q69.2) := by
      rw [lp_in (by omega), hQ69]
    rw [hfin]
    exact ⟨_, rfl, by simp only [hv69], hG69⟩
  have g67 : ¬ ((fIC σ p1 270) : Int32).toInt = 58 := h67
  refine ⟨fun h70 => ?_, fun h70 => ?_⟩
  · have g70 : ((fIC σ p1 270) : Int32).toInt = 59 := h70
    refine hB _ _ _ _ _ (fun m71 hm71 => ?_)
    dsimp only [ucgo, ucwp, ucsC, uqC, uoC, ctC, rfd, KX2_behind, KX2_behind_0, KX2_behind_152, KX2_behind_162, KX2_behind_169, KX2_behind_179, KX2_behind_193, KX2_behind_203, KX2_behind_219, KX2_behind_226, KX2_behind_233, KX2_behind_240, KX2_behind_247, lkC, s1C, s2C, dlC, kyC, Nat.beq, Nat.ble, rcd, rno, rsw, Nat.reduceAdd, Nat.reduceBEq, Nat.reduceDiv, List.drop, List.take, List.reverse, List.reverseAux, Int.toNat, Option.toList, List.append, List.cons_append, List.nil_append, zg270, zg276, zg279, zg287]
    intro w72 τ72 o72 q72
    obtain ⟨v72, rfl, hv72, hG72⟩ := q72 (N, E, A, B, V, z, T, ms, nm, j, g, f) ⟨_, _, rfl, hSs, hPf, hTg, ⟨hwf, hup, hBi, hsx⟩, hj, hp, hG, (by have := hup j hj; omega), by omega⟩
    have hF72 : FrE [91, 92, 94, 217, 218, 285, 286, 287, 288, 901] σ τ72 := FrE.mo o72.2 rfl
    have hSs_72 := SsC.fr hSs hF72 rfl
    have hPf_72 := PfC.fr hPf hF72 rfl
    have hTg_72 := TgC.fr hTg hF72 rfl
    have op_72 : SlC A B τ72 z j p1 ∧ p1 < cnC τ72 := by rw [hp]; exact hSs_72.1 j hj
    obtain ⟨Q72, hQ72⟩ : ∃ q, lpA (asF N z T f) z T j p2 g = q := ⟨_, rfl⟩
    rw [hQ72] at hv72 hG72
    try dsimp only [Option.toList, List.cons_append, List.nil_append, s1C, s2C, dlC, kyC, Nat.beq, lkC, rcd, rno, rsw]
    try dsimp only [Qz_behind]
    have hfin : inA (asF N z T f) N z T j p2 g = (Q72.1, Q72.2) := by
      rw [lp_in (by omega), hQ72]
    rw [hfin]
    exact ⟨_, rfl, by simp only [hv72], hG72⟩
  have g70 : ¬ ((fIC σ p1 270) : Int32).toInt = 59 := h70
  refine ⟨fun h73 => ?_, fun h73 => ?_⟩
  · have g73 : ((fIC σ p1 270) : Int32).toInt = 60 := h73
    refine hB _ _ _ _ _ (fun m74 hm74 => ?_)
    dsimp only [ucgo, ucwp, ucsC, uqC, uoC, ctC, rfd, KX2_behind, KX2_behind_0, KX2_behind_152, KX2_behind_162, KX2_behind_169, KX2_behind_179, KX2_behind_193, KX2_behind_203, KX2_behind_219, KX2_behind_226, KX2_behind_233, KX2_behind_240, KX2_behind_247, lkC, s1C, s2C, dlC, kyC, Nat.beq, Nat.ble, rcd, rno, rsw, Nat.reduceAdd, Nat.reduceBEq, Nat.reduceDiv, List.drop, List.take, List.reverse, List.reverseAux, Int.toNat, Option.toList, List.append, List.cons_append, List.nil_append, zg270, zg276, zg279, zg287]
    intro w75 τ75 o75 q75
    obtain ⟨v75, rfl, hv75, hG75⟩ := q75 (N, E, A, B, V, z, T, ms, nm, j, g, f) ⟨_, _, rfl, hSs, hPf, hTg, ⟨hwf, hup, hBi, hsx⟩, hj, hp, hG, (by have := hup j hj; omega), by omega⟩
    have hF75 : FrE [91, 92, 94, 217, 218, 285, 286, 287, 288, 901] σ τ75 := FrE.mo o75.2 rfl
    have hSs_75 := SsC.fr hSs hF75 rfl
    have hPf_75 := PfC.fr hPf hF75 rfl
    have hTg_75 := TgC.fr hTg hF75 rfl
    have op_75 : SlC A B τ75 z j p1 ∧ p1 < cnC τ75 := by rw [hp]; exact hSs_75.1 j hj
    obtain ⟨Q75, hQ75⟩ : ∃ q, lpA (asF N z T f) z T j p2 g = q := ⟨_, rfl⟩
    rw [hQ75] at hv75 hG75
    try dsimp only [Option.toList, List.cons_append, List.nil_append, s1C, s2C, dlC, kyC, Nat.beq, lkC, rcd, rno, rsw]
    try dsimp only [Qz_behind]
    have hfin : inA (asF N z T f) N z T j p2 g = (Q75.1, Q75.2) := by
      rw [lp_in (by omega), hQ75]
    rw [hfin]
    exact ⟨_, rfl, by simp only [hv75], hG75⟩
  have g73 : ¬ ((fIC σ p1 270) : Int32).toInt = 60 := h73
  refine ⟨fun h76 => ?_, fun h76 => ?_⟩
  · have g76 : ((fIC σ p1 270) : Int32).toInt = 61 := h76
    refine hB _ _ _ _ _ (fun m77 hm77 => ?_)
    dsimp only [ucgo, ucwp, ucsC, uqC, uoC, ctC, rfd, KX2_behind, KX2_behind_0, KX2_behind_152, KX2_behind_162, KX2_behind_169, KX2_behind_179, KX2_behind_193, KX2_behind_203, KX2_behind_219, KX2_behind_226, KX2_behind_233, KX2_behind_240, KX2_behind_247, lkC, s1C, s2C, dlC, kyC, Nat.beq, Nat.ble, rcd, rno, rsw, Nat.reduceAdd, Nat.reduceBEq, Nat.reduceDiv, List.drop, List.take, List.reverse, List.reverseAux, Int.toNat, Option.toList, List.append, List.cons_append, List.nil_append, zg270, zg276, zg279, zg287]
    intro w78 τ78 o78 q78
    obtain ⟨v78, rfl, hv78, hG78⟩ := q78 (N, E, A, B, V, z, T, ms, nm, j, g, f) ⟨_, _, rfl, hSs, hPf, hTg, ⟨hwf, hup, hBi, hsx⟩, hj, hp, hG, (by have := hup j hj; omega)⟩
    have hF78 : FrE [91, 92, 94, 217, 218, 285, 286, 287, 288, 901] σ τ78 := FrE.mo o78.2 rfl
    have hSs_78 := SsC.fr hSs hF78 rfl
    have hPf_78 := PfC.fr hPf hF78 rfl
    have hTg_78 := TgC.fr hTg hF78 rfl
    have op_78 : SlC A B τ78 z j p1 ∧ p1 < cnC τ78 := by rw [hp]; exact hSs_78.1 j hj
    obtain ⟨Q78, hQ78⟩ : ∃ q, swA (asF N z T f) z T j p2 g = q := ⟨_, rfl⟩
    rw [hQ78] at hv78 hG78
    try dsimp only [Option.toList, List.cons_append, List.nil_append, s1C, s2C, dlC, kyC, Nat.beq, lkC, rcd, rno, rsw]
    try dsimp only [Qz_behind]
    have hfin : inA (asF N z T f) N z T j p2 g = (Q78.1, Q78.2) := by
      rw [ina_s (by omega), hQ78]
    rw [hfin]
    exact ⟨_, rfl, by simp only [hv78], hG78⟩
  have g76 : ¬ ((fIC σ p1 270) : Int32).toInt = 61 := h76
  refine ⟨fun h79 => ?_, fun h79 => ?_⟩
  · have g79 : ((fIC σ p1 270) : Int32).toInt = 64 := h79
    refine hB _ _ _ _ _ (fun m80 hm80 => ?_)
    dsimp only [ucgo, ucwp, ucsC, uqC, uoC, ctC, rfd, KX2_behind, KX2_behind_0, KX2_behind_152, KX2_behind_162, KX2_behind_169, KX2_behind_179, KX2_behind_193, KX2_behind_203, KX2_behind_219, KX2_behind_226, KX2_behind_233, KX2_behind_240, KX2_behind_247, lkC, s1C, s2C, dlC, kyC, Nat.beq, Nat.ble, rcd, rno, rsw, Nat.reduceAdd, Nat.reduceBEq, Nat.reduceDiv, List.drop, List.take, List.reverse, List.reverseAux, Int.toNat, Option.toList, List.append, List.cons_append, List.nil_append, zg270, zg276, zg279, zg287]
    intro w81 τ81 o81 q81
    obtain ⟨rfl, hG81⟩ := q81 (N, E, A, B, V, z, T, ms, nm, j, g) ⟨_, _, rfl, hSs, hPf, hTg, ⟨hwf, hup, hBi, hsx⟩, hj, hp, hG, by omega⟩
    have hF81 : FrE [91, 92, 94, 217, 218, 285, 286, 287, 288, 901] σ τ81 := FrE.mo o81.2 rfl
    have hSs_81 := SsC.fr hSs hF81 rfl
    have hPf_81 := PfC.fr hPf hF81 rfl
    have hTg_81 := TgC.fr hTg hF81 rfl
    have op_81 : SlC A B τ81 z j p1 ∧ p1 < cnC τ81 := by rw [hp]; exact hSs_81.1 j hj
    try dsimp only [Option.toList, List.cons_append, List.nil_append, s1C, s2C, dlC, kyC, Nat.beq, lkC, rcd, rno, rsw]
    try dsimp only [Qz_behind]
    have hfin : inA (asF N z T f) N z T j p2 g = ((Int64.ofInt (-1)), ldT N z j p2 g) := by
      rw [ina_j (by omega)]
      rfl
    rw [hfin]
    exact ⟨_, rfl, rfl, hG81⟩
  have g79 : ¬ ((fIC σ p1 270) : Int32).toInt = 64 := h79
  refine ⟨fun h82 => ?_, fun h82 => ?_⟩
  · have g82 : ((fIC σ p1 270) : Int32).toInt = 65 := h82
    refine hB _ _ _ _ _ (fun m83 hm83 => ?_)
    dsimp only [ucgo, ucwp, ucsC, uqC, uoC, ctC, rfd, KX2_behind, KX2_behind_0, KX2_behind_152, KX2_behind_162, KX2_behind_169, KX2_behind_179, KX2_behind_193, KX2_behind_203, KX2_behind_219, KX2_behind_226, KX2_behind_233, KX2_behind_240, KX2_behind_247, lkC, s1C, s2C, dlC, kyC, Nat.beq, Nat.ble, rcd, rno, rsw, Nat.reduceAdd, Nat.reduceBEq, Nat.reduceDiv, List.drop, List.take, List.reverse, List.reverseAux, Int.toNat, Option.toList, List.append, List.cons_append, List.nil_append, zg270, zg276, zg279, zg287]
    intro w84 τ84 o84 q84
    obtain ⟨rfl, hG84⟩ := q84 (N, E, A, B, V, z, T, ms, nm, j, g) ⟨_, _, rfl, hSs, hPf, hTg, ⟨hwf, hup, hBi, hsx⟩, hj, hp, hG, by omega⟩
    have hF84 : FrE [91, 92, 94, 217, 218, 285, 286, 287, 288, 901] σ τ84 := FrE.mo o84.2 rfl
    have hSs_84 := SsC.fr hSs hF84 rfl
    have hPf_84 := PfC.fr hPf hF84 rfl
    have hTg_84 := TgC.fr hTg hF84 rfl
    have op_84 : SlC A B τ84 z j p1 ∧ p1 < cnC τ84 := by rw [hp]; exact hSs_84.1 j hj
    try dsimp only [Option.toList, List.cons_append, List.nil_append, s1C, s2C, dlC, kyC, Nat.beq, lkC, rcd, rno, rsw]
    try dsimp only [Qz_behind]
    have hfin : inA (asF N z T f) N z T j p2 g = ((Int64.ofInt (-1)), ldT N z j p2 g) := by
      rw [ina_j (by omega)]
      rfl
    rw [hfin]
    exact ⟨_, rfl, rfl, hG84⟩
  have g82 : ¬ ((fIC σ p1 270) : Int32).toInt = 65 := h82
  refine ⟨fun h85 => ?_, fun h85 => ?_⟩
  · have g85 : ((fIC σ p1 270) : Int32).toInt = 66 := h85
    refine hB _ _ _ _ _ (fun m86 hm86 => ?_)
    dsimp only [ucgo, ucwp, ucsC, uqC, uoC, ctC, rfd, KX2_behind, KX2_behind_0, KX2_behind_152, KX2_behind_162, KX2_behind_169, KX2_behind_179, KX2_behind_193, KX2_behind_203, KX2_behind_219, KX2_behind_226, KX2_behind_233, KX2_behind_240, KX2_behind_247, lkC, s1C, s2C, dlC, kyC, Nat.beq, Nat.ble, rcd, rno, rsw, Nat.reduceAdd, Nat.reduceBEq, Nat.reduceDiv, List.drop, List.take, List.reverse, List.reverseAux, Int.toNat, Option.toList, List.append, List.cons_append, List.nil_append, zg270, zg276, zg279, zg287]
    intro a87 e87 ob87
    cases e87
    have f88 : (fRC σ p1 279) = opA A (xjS z j) := op.1.2.2.2.2.2.1
    intro w89 τ89 o89 q89
    obtain ⟨v89, rfl, hv89, hWh89⟩ := q89 (N, E, A, B, V, z, T, ms, nm, g.2.2.2.2, xjS z j) ⟨_, _, rfl, hSs, hPf, hG.2, f88, (by have := (hwf j hj).2.1; omega), hsx⟩
    have hG89 := AzC.w hG o89.2 (fun j9 h9 => (hSs.1 j9 h9).2) hWh89
    have hv89 : v89 = (exB z T (xjS z j) p2 g).1 := hv89
    have hG89 : AzC E B τ89 z (exB z T (xjS z j) p2 g).2 := hG89
    have hF89 : FrE [91, 92, 94, 217, 218, 285, 286, 287, 288, 901] σ τ89 := FrE.mo o89.2 rfl
    have hSs_89 := SsC.fr hSs hF89 rfl
    have hPf_89 := PfC.fr hPf hF89 rfl
    have hTg_89 := TgC.fr hTg hF89 rfl
    have op_89 : SlC A B τ89 z j p1 ∧ p1 < cnC τ89 := by rw [hp]; exact hSs_89.1 j hj
    obtain ⟨Q89, hQ89⟩ : ∃ q, exB z T (xjS z j) p2 g = q := ⟨_, rfl⟩
    rw [hQ89] at hv89 hG89
    try dsimp only [Option.toList, List.cons_append, List.nil_append, s1C, s2C, dlC, kyC, Nat.beq, lkC, rcd, rno, rsw]
    try dsimp only [Qz_behind]
    have hfin : inA (asF N z T f) N z T j p2 g = ((Int64.ofInt (-1)), Q89.2) := by
      rw [ina_r (by omega), hQ89]
      rfl
    rw [hfin]
    exact ⟨_, rfl, rfl, hG89⟩
  have g85 : ¬ ((fIC σ p1 270) : Int32).toInt = 66 := h85
  refine ⟨fun h90 => ?_, fun h90 => ?_⟩
  · have g90 : ((fIC σ p1 270) : Int32).toInt = 67 := h90
    refine hB _ _ _ _ _ (fun m91 hm91 => ?_)
    dsimp only [ucgo, ucwp, ucsC, uqC, uoC, ctC, rfd, KX2_behind, KX2_behind_0, KX2_behind_152, KX2_behind_162, KX2_behind_169, KX2_behind_179, KX2_behind_193, KX2_behind_203, KX2_behind_219, KX2_behind_226, KX2_behind_233, KX2_behind_240, KX2_behind_247, lkC, s1C, s2C, dlC, kyC, Nat.beq, Nat.ble, rcd, rno, rsw, Nat.reduceAdd, Nat.reduceBEq, Nat.reduceDiv, List.drop, List.take, List.reverse, List.reverseAux, Int.toNat, Option.toList, List.append, List.cons_append, List.nil_append, zg270, zg276, zg279, zg287]
    intro a92 e92 ob92
    cases e92
    have f93 : (fRC σ p1 279) = opA A (xjS z j) := op.1.2.2.2.2.2.1
    intro w94 τ94 o94 q94
    obtain ⟨v94, rfl, hv94, hWh94⟩ := q94 (N, E, A, B, V, z, T, ms, nm, g.2.2.2.2, xjS z j) ⟨_, _, rfl, hSs, hPf, hG.2, f93, (by have := (hwf j hj).2.1; omega), hsx⟩
    have hG94 := AzC.w hG o94.2 (fun j9 h9 => (hSs.1 j9 h9).2) hWh94
    have hv94 : v94 = (exB z T (xjS z j) p2 g).1 := hv94
    have hG94 : AzC E B τ94 z (exB z T (xjS z j) p2 g).2 := hG94
    have hF94 : FrE [91, 92, 94, 217, 218, 285, 286, 287, 288, 901] σ τ94 := FrE.mo o94.2 rfl
    have hSs_94 := SsC.fr hSs hF94 rfl
    have hPf_94 := PfC.fr hPf hF94 rfl
    have hTg_94 := TgC.fr hTg hF94 rfl
    have op_94 : SlC A B τ94 z j p1 ∧ p1 < cnC τ94 := by rw [hp]; exact hSs_94.1 j hj
    obtain ⟨Q94, hQ94⟩ : ∃ q, exB z T (xjS z j) p2 g = q := ⟨_, rfl⟩
    rw [hQ94] at hv94 hG94
    try dsimp only [Option.toList, List.cons_append, List.nil_append, s1C, s2C, dlC, kyC, Nat.beq, lkC, rcd, rno, rsw]
    try dsimp only [Qz_behind]
    have hfin : inA (asF N z T f) N z T j p2 g = ((Int64.ofInt (-1)), Q94.2) := by
      rw [ina_r (by omega), hQ94]
      rfl
    rw [hfin]
    exact ⟨_, rfl, rfl, hG94⟩
  have g90 : ¬ ((fIC σ p1 270) : Int32).toInt = 67 := h90
  refine ⟨fun h95 => ?_, fun h95 => ?_⟩
  · have g95 : ((fIC σ p1 270) : Int32).toInt = 68 := h95
    refine hB _ _ _ _ _ (fun m96 hm96 => ?_)
    dsimp only [ucgo, ucwp, ucsC, uqC, uoC, ctC, rfd, KX2_behind, KX2_behind_0, KX2_behind_152, KX2_behind_162, KX2_behind_169, KX2_behind_179, KX2_behind_193, KX2_behind_203, KX2_behind_219, KX2_behind_226, KX2_behind_233, KX2_behind_240, KX2_behind_247, lkC, s1C, s2C, dlC, kyC, Nat.beq, Nat.ble, rcd, rno, rsw, Nat.reduceAdd, Nat.reduceBEq, Nat.reduceDiv, List.drop, List.take, List.reverse, List.reverseAux, Int.toNat, Option.toList, List.append, List.cons_append, List.nil_append, zg270, zg276, zg279, zg287]
    intro w97 τ97 o97 q97
    obtain ⟨v97, rfl, hv97, hG97⟩ := q97 (N, E, A, B, V, z, T, ms, nm, j, g, f) ⟨_, _, rfl, hSs, hPf, hTg, ⟨hwf, hup, hBi, hsx⟩, hj, hp, hG, (by have := hup j hj; omega)⟩
    have hF97 : FrE [91, 92, 94, 217, 218, 285, 286, 287, 288, 901] σ τ97 := FrE.mo o97.2 rfl
    have hSs_97 := SsC.fr hSs hF97 rfl
    have hPf_97 := PfC.fr hPf hF97 rfl
    have hTg_97 := TgC.fr hTg hF97 rfl
    have op_97 : SlC A B τ97 z j p1 ∧ p1 < cnC τ97 := by rw [hp]; exact hSs_97.1 j hj
    obtain ⟨Q97, hQ97⟩ : ∃ q, tyA (asF N z T f) z j p2 g = q := ⟨_, rfl⟩
    rw [hQ97] at hv97 hG97
    try dsimp only [Option.toList, List.cons_append, List.nil_append, s1C, s2C, dlC, kyC, Nat.beq, lkC, rcd, rno, rsw]
    try dsimp only [Qz_behind]
    have hfin : inA (asF N z T f) N z T j p2 g = (Q97.1, Q97.2) := by
      rw [ina_y (by omega), hQ97]
    rw [hfin]
    exact ⟨_, rfl, by simp only [hv97], hG97⟩
  have g95 : ¬ ((fIC σ p1 270) : Int32).toInt = 68 := h95
  refine ⟨fun h98 => ?_, fun h98 => ?_⟩
  · have g98 : ((fIC σ p1 270) : Int32).toInt = 90 := h98
    refine hB _ _ _ _ _ (fun m99 hm99 => ?_)
    dsimp only [ucgo, ucwp, ucsC, uqC, uoC, ctC, rfd, KX2_behind, KX2_behind_0, KX2_behind_152, KX2_behind_162, KX2_behind_169, KX2_behind_179, KX2_behind_193, KX2_behind_203, KX2_behind_219, KX2_behind_226, KX2_behind_233, KX2_behind_240, KX2_behind_247, lkC, s1C, s2C, dlC, kyC, Nat.beq, Nat.ble, rcd, rno, rsw, Nat.reduceAdd, Nat.reduceBEq, Nat.reduceDiv, List.drop, List.take, List.reverse, List.reverseAux, Int.toNat, Option.toList, List.append, List.cons_append, List.nil_append, zg270, zg276, zg279, zg287]
    intro a100 e100 ob100
    cases e100
    have f101 : (fRC σ p1 279) = opA A (xjS z j) := op.1.2.2.2.2.2.1
    intro w102 τ102 o102 q102
    obtain ⟨v102, rfl, hv102, hWh102⟩ := q102 (N, E, A, B, V, z, T, ms, nm, g.2.2.2.2, xjS z j) ⟨_, _, rfl, hSs, hPf, hG.2, f101, (by have := (hwf j hj).2.1; omega), hsx⟩
    have hG102 := AzC.w hG o102.2 (fun j9 h9 => (hSs.1 j9 h9).2) hWh102
    have hv102 : v102 = (exB z T (xjS z j) p2 g).1 := hv102
    have hG102 : AzC E B τ102 z (exB z T (xjS z j) p2 g).2 := hG102
    have hF102 : FrE [91, 92, 94, 217, 218, 285, 286, 287, 288, 901] σ τ102 := FrE.mo o102.2 rfl
    have hSs_102 := SsC.fr hSs hF102 rfl
    have hPf_102 := PfC.fr hPf hF102 rfl
    have hTg_102 := TgC.fr hTg hF102 rfl
    have op_102 : SlC A B τ102 z j p1 ∧ p1 < cnC τ102 := by rw [hp]; exact hSs_102.1 j hj
    obtain ⟨Q102, hQ102⟩ : ∃ q, exB z T (xjS z j) p2 g = q := ⟨_, rfl⟩
    rw [hQ102] at hv102 hG102
    try dsimp only [Option.toList, List.cons_append, List.nil_append, s1C, s2C, dlC, kyC, Nat.beq, lkC, rcd, rno, rsw]
    try dsimp only [Qz_behind]
    have hfin : inA (asF N z T f) N z T j p2 g = (Q102.1, Q102.2) := by
      rw [ina_e (by omega), hQ102]
    rw [hfin]
    exact ⟨_, rfl, by simp only [hv102], hG102⟩
  have g98 : ¬ ((fIC σ p1 270) : Int32).toInt = 90 := h98
  refine ⟨fun h103 => ?_, fun h103 => ?_⟩
  · have g103 : ((fIC σ p1 270) : Int32).toInt = 91 := h103
    refine hB _ _ _ _ _ (fun m104 hm104 => ?_)
    dsimp only [ucgo, ucwp, ucsC, uqC, uoC, ctC, rfd, KX2_behind, KX2_behind_0, KX2_behind_152, KX2_behind_162, KX2_behind_169, KX2_behind_179, KX2_behind_193, KX2_behind_203, KX2_behind_219, KX2_behind_226, KX2_behind_233, KX2_behind_240, KX2_behind_247, lkC, s1C, s2C, dlC, kyC, Nat.beq, Nat.ble, rcd, rno, rsw, Nat.reduceAdd, Nat.reduceBEq, Nat.reduceDiv, List.drop, List.take, List.reverse, List.reverseAux, Int.toNat, Option.toList, List.append, List.cons_append, List.nil_append, zg270, zg276, zg279, zg287]
    intro w105 τ105 o105 q105
    obtain ⟨v105, rfl, hv105, hG105⟩ := q105 (N, E, A, B, V, z, T, ms, nm, j, g) ⟨_, _, rfl, hSs, hPf, hTg, ⟨hwf, hup, hBi, hsx⟩, hj, hp, hG⟩
    have hF105 : FrE [91, 92, 94, 217, 218, 285, 286, 287, 288, 901] σ τ105 := FrE.mo o105.2 rfl
    have hSs_105 := SsC.fr hSs hF105 rfl
    have hPf_105 := PfC.fr hPf hF105 rfl
    have hTg_105 := TgC.fr hTg hF105 rfl
    have op_105 : SlC A B τ105 z j p1 ∧ p1 < cnC τ105 := by rw [hp]; exact hSs_105.1 j hj
    obtain ⟨Q105, hQ105⟩ : ∃ q, tdA z T j p2 g = q := ⟨_, rfl⟩
    rw [hQ105] at hv105 hG105
    try dsimp only [Option.toList, List.cons_append, List.nil_append, s1C, s2C, dlC, kyC, Nat.beq, lkC, rcd, rno, rsw]
    try dsimp only [Qz_behind]
    have hfin : inA (asF N z T f) N z T j p2 g = (Q105.1, Q105.2) := by
      rw [ina_t (by omega), hQ105]
    rw [hfin]
    exact ⟨_, rfl, by simp only [hv105], hG105⟩
  have g103 : ¬ ((fIC σ p1 270) : Int32).toInt = 91 := h103
  refine ⟨fun h106 => ?_, fun h106 => ?_⟩
  · have g106 : ((fIC σ p1 270) : Int32).toInt = 92 := h106
    refine hB _ _ _ _ _ (fun m107 hm107 => ?_)
    dsimp only [ucgo, ucwp, ucsC, uqC, uoC, ctC, rfd, KX2_behind, KX2_behind_0, KX2_behind_152, KX2_behind_162, KX2_behind_169, KX2_behind_179, KX2_behind_193, KX2_behind_203, KX2_behind_219, KX2_behind_226, KX2_behind_233, KX2_behind_240, KX2_behind_247, lkC, s1C, s2C, dlC, kyC, Nat.beq, Nat.ble, rcd, rno, rsw, Nat.reduceAdd, Nat.reduceBEq, Nat.reduceDiv, List.drop, List.take, List.reverse, List.reverseAux, Int.toNat, Option.toList, List.append, List.cons_append, List.nil_append, zg270, zg276, zg279, zg287]
    intro a108 e108 ob108
    cases e108
    have f109 : (fRC σ p1 276) = opA B (bjS z j) := op.1.2.2.1
    intro w110 τ110 o110 q110
    obtain ⟨v110, rfl, hv110, hG110⟩ := q110 (N, E, A, B, V, z, T, ms, nm, bjS z j, g, f) ⟨_, _, rfl, hSs, hPf, hTg, ⟨hwf, hup, hBi, hsx⟩, hG, f109, (by have := (hwf j hj).1; omega), (fun q9 => by have := hup j hj; omega)⟩
    have hF110 : FrE [91, 92, 94, 217, 218, 285, 286, 287, 288, 901] σ τ110 := FrE.mo o110.2 rfl
    have hSs_110 := SsC.fr hSs hF110 rfl
    have hPf_110 := PfC.fr hPf hF110 rfl
    have hTg_110 := TgC.fr hTg hF110 rfl
    have op_110 : SlC A B τ110 z j p1 ∧ p1 < cnC τ110 := by rw [hp]; exact hSs_110.1 j hj
    obtain ⟨Q110, hQ110⟩ : ∃ q, (asF N z T f).1 (bjS z j) p2 g = q := ⟨_, rfl⟩
    rw [hQ110] at hv110 hG110
    try dsimp only [Option.toList, List.cons_append, List.nil_append, s1C, s2C, dlC, kyC, Nat.beq, lkC, rcd, rno, rsw]
    try dsimp only [Qz_behind]
    have hfin : inA (asF N z T f) N z T j p2 g = (Q110.1, Q110.2) := by
      rw [ina_b (by omega), hQ110]
    rw [hfin]
    exact ⟨_, rfl, by simp only [hv110], hG110⟩
  have g106 : ¬ ((fIC σ p1 270) : Int32).toInt = 92 := h106
  refine ⟨fun h111 => ?_, fun h111 => ?_⟩
  · have g111 : ((fIC σ p1 270) : Int32).toInt = 93 := h111
    refine hB _ _ _ _ _ (fun m112 hm112 => ?_)
    dsimp only [ucgo, ucwp, ucsC, uqC, uoC, ctC, rfd, KX2_behind, KX2_behind_0, KX2_behind_152, KX2_behind_162, KX2_behind_169, KX2_behind_179, KX2_behind_193, KX2_behind_203, KX2_behind_219, KX2_behind_226, KX2_behind_233, KX2_behind_240, KX2_behind_247, lkC, s1C, s2C, dlC, kyC, Nat.beq, Nat.ble, rcd, rno, rsw, Nat.reduceAdd, Nat.reduceBEq, Nat.reduceDiv, List.drop, List.take, List.reverse, List.reverseAux, Int.toNat, Option.toList, List.append, List.cons_append, List.nil_append, zg270, zg276, zg279, zg287]
    intro w113 τ113 o113 q113
    obtain ⟨v113, rfl, hv113, hG113⟩ := q113 (N, E, A, B, V, z, T, ms, nm, j, g) ⟨_, _, rfl, hSs, hPf, hTg, ⟨hwf, hup, hBi, hsx⟩, hj, hp, hG⟩
    have hF113 : FrE [91, 92, 94, 217, 218, 285, 286, 287, 288, 901] σ τ113 := FrE.mo o113.2 rfl
    have hSs_113 := SsC.fr hSs hF113 rfl
    have hPf_113 := PfC.fr hPf hF113 rfl
    have hTg_113 := TgC.fr hTg hF113 rfl
    have op_113 : SlC A B τ113 z j p1 ∧ p1 < cnC τ113 := by rw [hp]; exact hSs_113.1 j hj
    obtain ⟨Q113, hQ113⟩ : ∃ q, tdA z T j p2 g = q := ⟨_, rfl⟩
    rw [hQ113] at hv113 hG113
    try dsimp only [Option.toList, List.cons_append, List.nil_append, s1C, s2C, dlC, kyC, Nat.beq, lkC, rcd, rno, rsw]
    try dsimp only [Qz_behind]
    have hfin : inA (asF N z T f) N z T j p2 g = (Q113.1, Q113.2) := by
      rw [ina_t (by omega), hQ113]
    rw [hfin]
    exact ⟨_, rfl, by simp only [hv113], hG113⟩
  have g111 : ¬ ((fIC σ p1 270) : Int32).toInt = 93 := h111
  refine ⟨fun h114 => ?_, fun h114 => ?_⟩
  · have g114 : ((fIC σ p1 270) : Int32).toInt = 94 := h114
    refine hB _ _ _ _ _ (fun m115 hm115 => ?_)
    dsimp only [ucgo, ucwp, ucsC, uqC, uoC, ctC, rfd, KX2_behind, KX2_behind_0, KX2_behind_152, KX2_behind_162, KX2_behind_169, KX2_behind_179, KX2_behind_193, KX2_behind_203, KX2_behind_219, KX2_behind_226, KX2_behind_233, KX2_behind_240, KX2_behind_247, lkC, s1C, s2C, dlC, kyC, Nat.beq, Nat.ble, rcd, rno, rsw, Nat.reduceAdd, Nat.reduceBEq, Nat.reduceDiv, List.drop, List.take, List.reverse, List.reverseAux, Int.toNat, Option.toList, List.append, List.cons_append, List.nil_append, zg270, zg276, zg279, zg287]
    intro a116 e116 ob116
    cases e116
    have f117 : (fRC σ p1 279) = opA A (xjS z j) := op.1.2.2.2.2.2.1
    intro w118 τ118 o118 q118
    obtain ⟨v118, rfl, hv118, hWh118⟩ := q118 (N, E, A, B, V, z, T, ms, nm, g.2.2.2.2, xjS z j) ⟨_, _, rfl, hSs, hPf, hG.2, f117, (by have := (hwf j hj).2.1; omega), hsx⟩
    have hG118 := AzC.w hG o118.2 (fun j9 h9 => (hSs.1 j9 h9).2) hWh118
    have hv118 : v118 = (exB z T (xjS z j) p2 g).1 := hv118
    have hG118 : AzC E B τ118 z (exB z T (xjS z j) p2 g).2 := hG118
    have hF118 : FrE [91, 92, 94, 217, 218, 285, 286, 287, 288, 901] σ τ118 := FrE.mo o118.2 rfl
    have hSs_118 := SsC.fr hSs hF118 rfl
    have hPf_118 := PfC.fr hPf hF118 rfl
    have hTg_118 := TgC.fr hTg hF118 rfl
    have op_118 : SlC A B τ118 z j p1 ∧ p1 < cnC τ118 := by rw [hp]; exact hSs_118.1 j hj
    obtain ⟨Q118, hQ118⟩ : ∃ q, exB z T (xjS z j) p2 g = q := ⟨_, rfl⟩
    rw [hQ118] at hv118 hG118
    try dsimp only [Option.toList, List.cons_append, List.nil_append, s1C, s2C, dlC, kyC, Nat.beq, lkC, rcd, rno, rsw]
    try dsimp only [Qz_behind]
    have hfin : inA (asF N z T f) N z T j p2 g = (Q118.1, Q118.2) := by
      rw [ina_e (by omega), hQ118]
    rw [hfin]
    exact ⟨_, rfl, by simp only [hv118], hG118⟩
  have g114 : ¬ ((fIC σ p1 270) : Int32).toInt = 94 := h114
  refine hB _ _ _ _ _ (fun m119 hm119 => ?_)
  dsimp only [ucgo, ucwp, ucsC, uqC, uoC, ctC, rfd, KX2_behind, KX2_behind_0, KX2_behind_152, KX2_behind_162, KX2_behind_169, KX2_behind_179, KX2_behind_193, KX2_behind_203, KX2_behind_219, KX2_behind_226, KX2_behind_233, KX2_behind_240, KX2_behind_247, lkC, s1C, s2C, dlC, kyC, Nat.beq, Nat.ble, rcd, rno, rsw, Nat.reduceAdd, Nat.reduceBEq, Nat.reduceDiv, List.drop, List.take, List.reverse, List.reverseAux, Int.toNat, Option.toList, List.append, List.cons_append, List.nil_append, zg270, zg276, zg279, zg287]
  try dsimp only [Qz_behind]
  have hfin : inA (asF N z T f) N z T j p2 g = (p2, g) := by
    exact ina_o (by omega)
  rw [hfin]
  exact ⟨_, rfl, rfl, hG⟩
theorem grp_asg : ∀ L : Nat, (∀ (As : List AvC) (σ : CsC) (w : Option AvC) (τ : CsC), EvF L 29 As σ w τ → Uz_assign As σ w τ) ∧ (∀ (As : List AvC) (σ : CsC) (w : Option AvC) (τ : CsC), EvF L 30 As σ w τ → Uz_assignRow As σ w τ) ∧ (∀ (As : List AvC) (σ : CsC) (w : Option AvC) (τ : CsC), EvF L 31 As σ w τ → Uz_assignBody As σ w τ) ∧ (∀ (As : List AvC) (σ : CsC) (w : Option AvC) (τ : CsC), EvF L 32 As σ w τ → Uz_behind As σ w τ) ∧ (∀ (As : List AvC) (σ : CsC) (w : Option AvC) (τ : CsC), EvF L 35 As σ w τ → Uz_behindIf As σ w τ) ∧ (∀ (As : List AvC) (σ : CsC) (w : Option AvC) (τ : CsC), EvF L 36 As σ w τ → Uz_behindLoop As σ w τ) ∧ (∀ (As : List AvC) (σ : CsC) (w : Option AvC) (τ : CsC), EvF L 37 As σ w τ → Uz_behindSwitch As σ w τ) ∧ (∀ (As : List AvC) (σ : CsC) (w : Option AvC) (τ : CsC), EvF L 38 As σ w τ → Uz_behindTry As σ w τ) := by
  intro L
  induction L with
  | zero => exact ⟨fun _ _ _ _ h => h.elim, fun _ _ _ _ h => h.elim, fun _ _ _ _ h => h.elim, fun _ _ _ _ h => h.elim, fun _ _ _ _ h => h.elim, fun _ _ _ _ h => h.elim, fun _ _ _ _ h => h.elim, fun _ _ _ _ h => h.elim⟩
  | succ L ih =>
    obtain ⟨i_assign, i_assignRow, i_assignBody, i_behind, i_behindIf, i_behindLoop, i_behindSwitch, i_behindTry⟩ := ih
    exact ⟨fun As σ w τ h y hy => EvF.us (cs := [32]) (pz_assign y) rfl (List.forall_mem_cons.2 ⟨i_behind, fun _ h => absurd h List.not_mem_nil⟩) h hy, fun As σ w τ h y hy => EvF.us (cs := [29]) (pz_assignRow y) rfl (List.forall_mem_cons.2 ⟨i_assign, fun _ h => absurd h List.not_mem_nil⟩) h hy, fun As σ w τ h y hy => EvF.us (cs := [29]) (pz_assignBody y) rfl (List.forall_mem_cons.2 ⟨i_assign, fun _ h => absurd h List.not_mem_nil⟩) h hy, fun As σ w τ h y hy => EvF.us (cs := [30, 31, 35, 36, 37, 34, 39, 38, 33]) (pz_behind y) rfl (List.forall_mem_cons.2 ⟨i_assignRow, List.forall_mem_cons.2 ⟨i_assignBody, List.forall_mem_cons.2 ⟨i_behindIf, List.forall_mem_cons.2 ⟨i_behindLoop, List.forall_mem_cons.2 ⟨i_behindSwitch, List.forall_mem_cons.2 ⟨wz_leadTo L, List.forall_mem_cons.2 ⟨wz_behindExp L, List.forall_mem_cons.2 ⟨i_behindTry, List.forall_mem_cons.2 ⟨wz_behindTold L, fun _ h => absurd h List.not_mem_nil⟩⟩⟩⟩⟩⟩⟩⟩⟩) h hy, fun As σ w τ h y hy => EvF.us (cs := [39, 31, 29]) (pz_behindIf y) rfl (List.forall_mem_cons.2 ⟨wz_behindExp L, List.forall_mem_cons.2 ⟨i_assignBody, List.forall_mem_cons.2 ⟨i_assign, fun _ h => absurd h List.not_mem_nil⟩⟩⟩) h hy, fun As σ w τ h y hy => EvF.us (cs := [39, 31, 30]) (pz_behindLoop y) rfl (List.forall_mem_cons.2 ⟨wz_behindExp L, List.forall_mem_cons.2 ⟨i_assignBody, List.forall_mem_cons.2 ⟨i_assignRow, fun _ h => absurd h List.not_mem_nil⟩⟩⟩) h hy, fun As σ w τ h y hy => EvF.us (cs := [39, 29]) (pz_behindSwitch y) rfl (List.forall_mem_cons.2 ⟨wz_behindExp L, List.forall_mem_cons.2 ⟨i_assign, fun _ h => absurd h List.not_mem_nil⟩⟩) h hy, fun As σ w τ h y hy => EvF.us (cs := [29, 31, 222]) (pz_behindTry y) rfl (List.forall_mem_cons.2 ⟨i_assign, List.forall_mem_cons.2 ⟨i_assignBody, List.forall_mem_cons.2 ⟨wz_bitq L, fun _ h => absurd h List.not_mem_nil⟩⟩⟩) h hy⟩
theorem wz_assign (L : Nat) : ∀ (As : List AvC) (σ : CsC) (w : Option AvC) (τ : CsC), EvF L 29 As σ w τ → Uz_assign As σ w τ := (grp_asg L).1
theorem wz_assignRow (L : Nat) : ∀ (As : List AvC) (σ : CsC) (w : Option AvC) (τ : CsC), EvF L 30 As σ w τ → Uz_assignRow As σ w τ := (grp_asg L).2.1
theorem wz_assignBody (L : Nat) : ∀ (As : List AvC) (σ : CsC) (w : Option AvC) (τ : CsC), EvF L 31 As σ w τ → Uz_assignBody As σ w τ := (grp_asg L).2.2.1
theorem wz_behind (L : Nat) : ∀ (As : List AvC) (σ : CsC) (w : Option AvC) (τ : CsC), EvF L 32 As σ w τ → Uz_behind As σ w τ := (grp_asg L).2.2.2.1
theorem wz_behindIf (L : Nat) : ∀ (As : List AvC) (σ : CsC) (w : Option AvC) (τ : CsC), EvF L 35 As σ w τ → Uz_behindIf As σ w τ := (grp_asg L).2.2.2.2.1
theorem wz_behindLoop (L : Nat) : ∀ (As : List AvC) (σ : CsC) (w : Option AvC) (τ : CsC), EvF L 36 As σ w τ → Uz_behindLoop As σ w τ := (grp_asg L).2.2.2.2.2.1
theorem wz_behindSwitch (L : Nat) : ∀ (As : List AvC) (σ : CsC) (w : Option AvC) (τ : CsC), EvF L 37 As σ w τ → Uz_behindSwitch As σ w τ := (grp_asg L).2.2.2.2.2.2.1
theorem wz_behindTry (L : Nat) : ∀ (As : List AvC) (σ : CsC) (w : Option AvC) (τ : CsC), EvF L 38 As σ w τ → Uz_behindTry As σ w τ := (grp_asg L).2.2.2.2.2.2.2
