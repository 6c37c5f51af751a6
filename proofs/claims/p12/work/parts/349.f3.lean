abbrev Pz_reach : ((Int → Int) × (Nat → Nat) × (Nat → Nat) × (Nat → Nat) × (Nat → Nat) × ZS × TbT × MfT × Nat × Nat × RR × Bool × Nat) → CpC := fun y As σ => match y with
  | (N, E, A, B, V, z, T, ms, nm, j, r, a, f) => ∃ (p1 : Nat) (p2 : Int32), As = [.inr (.inr (some (E 4))), .inr (.inr (some p1)), .inl p2] ∧ (SsC E A B σ z T ms nm) ∧ (PfC E σ) ∧ (TgC N B σ z) ∧ (WfS z T ∧ UpS z ∧ BiC B z) ∧ (j < snM z) ∧ (p1 = B j) ∧ (RhC E B σ z r) ∧ (p2.toInt = bZI a) ∧ (2 * snM z ≤ f + 2 * j)
abbrev Qz_reach : ((Int → Int) × (Nat → Nat) × (Nat → Nat) × (Nat → Nat) × (Nat → Nat) × ZS × TbT × MfT × Nat × Nat × RR × Bool × Nat) → CqC := fun y As σ w τ => match y, As with
  | (N, E, A, B, V, z, T, ms, nm, j, r, a, f), [_, .inr (.inr (some p1)), .inl p2] => ∃ v, w = some (.inl v) ∧ v.toInt = bZI ((rcF N z T f).2.2 j a r).1 ∧ RhC E B τ z ((rcF N z T f).2.2 j a r).2
  | _, _ => True
abbrev Uz_reach : CqC := fun As σ w τ => ∀ y, Pz_reach y As σ → Qz_reach y As σ w τ
abbrev Pz_reachInside : ((Int → Int) × (Nat → Nat) × (Nat → Nat) × (Nat → Nat) × (Nat → Nat) × ZS × TbT × MfT × Nat × Nat × RR × Nat) → CpC := fun y As σ => match y with
  | (N, E, A, B, V, z, T, ms, nm, j, r, f) => ∃ (p1 : Nat), As = [.inr (.inr (some (E 4))), .inr (.inr (some p1))] ∧ (SsC E A B σ z T ms nm) ∧ (PfC E σ) ∧ (TgC N B σ z) ∧ (WfS z T ∧ UpS z ∧ BiC B z) ∧ (j < snM z) ∧ (p1 = B j) ∧ (RhC E B σ z r) ∧ (2 * snM z ≤ f + 1 + 2 * j)
abbrev Qz_reachInside : ((Int → Int) × (Nat → Nat) × (Nat → Nat) × (Nat → Nat) × (Nat → Nat) × ZS × TbT × MfT × Nat × Nat × RR × Nat) → CqC := fun y As σ w τ => match y, As with
  | (N, E, A, B, V, z, T, ms, nm, j, r, f), [_, .inr (.inr (some p1))] => ∃ v, w = some (.inl v) ∧ v.toInt = bZI (inR (rcF N z T f) N z T j r).1 ∧ RhC E B τ z (inR (rcF N z T f) N z T j r).2
  | _, _ => True
abbrev Uz_reachInside : CqC := fun As σ w τ => ∀ y, Pz_reachInside y As σ → Qz_reachInside y As σ w τ
abbrev Pz_reachBody : ((Int → Int) × (Nat → Nat) × (Nat → Nat) × (Nat → Nat) × (Nat → Nat) × ZS × TbT × MfT × Nat × Nat × RR × Bool × Nat) → CpC := fun y As σ => match y with
  | (N, E, A, B, V, z, T, ms, nm, j, r, a, f) => ∃ (p1 : Nat) (p2 : Int32), As = [.inr (.inr (some (E 4))), .inr (.inr (some p1)), .inl p2] ∧ (SsC E A B σ z T ms nm) ∧ (PfC E σ) ∧ (TgC N B σ z) ∧ (WfS z T ∧ UpS z ∧ BiC B z) ∧ (j < snM z) ∧ (p1 = B j) ∧ (RhC E B σ z r) ∧ (p2.toInt = bZI a) ∧ (2 * snM z ≤ f + 1 + 2 * j)
abbrev Qz_reachBody : ((Int → Int) × (Nat → Nat) × (Nat → Nat) × (Nat → Nat) × (Nat → Nat) × ZS × TbT × MfT × Nat × Nat × RR × Bool × Nat) → CqC := fun y As σ w τ => match y, As with
  | (N, E, A, B, V, z, T, ms, nm, j, r, a, f), [_, .inr (.inr (some p1)), .inl p2] => ∃ v, w = some (.inl v) ∧ v.toInt = bZI (bdR (rcF N z T f) z j a r).1 ∧ RhC E B τ z (bdR (rcF N z T f) z j a r).2
  | _, _ => True
abbrev Uz_reachBody : CqC := fun As σ w τ => ∀ y, Pz_reachBody y As σ → Qz_reachBody y As σ w τ
abbrev Pz_reachRow : ((Int → Int) × (Nat → Nat) × (Nat → Nat) × (Nat → Nat) × (Nat → Nat) × ZS × TbT × MfT × Nat × Nat × RR × Nat) → CpC := fun y As σ => match y with
  | (N, E, A, B, V, z, T, ms, nm, j, r, f) => ∃ (p1 : Nat), As = [.inr (.inr (some (E 4))), .inr (.inr (some p1))] ∧ (SsC E A B σ z T ms nm) ∧ (PfC E σ) ∧ (TgC N B σ z) ∧ (WfS z T ∧ UpS z ∧ BiC B z) ∧ (j < snM z) ∧ (p1 = B j) ∧ (RhC E B σ z r) ∧ (2 * snM z ≤ f + 1 + 2 * j)
abbrev Qz_reachRow : ((Int → Int) × (Nat → Nat) × (Nat → Nat) × (Nat → Nat) × (Nat → Nat) × ZS × TbT × MfT × Nat × Nat × RR × Nat) → CqC := fun y As σ w τ => match y, As with
  | (N, E, A, B, V, z, T, ms, nm, j, r, f), [_, .inr (.inr (some p1))] => ∃ v, w = some (.inl v) ∧ v.toInt = bZI (rwR (rcF N z T f) z j r).1 ∧ RhC E B τ z (rwR (rcF N z T f) z j r).2
  | _, _ => True
abbrev Uz_reachRow : CqC := fun As σ w τ => ∀ y, Pz_reachRow y As σ → Qz_reachRow y As σ w τ
abbrev Pz_reachSwitch : ((Int → Int) × (Nat → Nat) × (Nat → Nat) × (Nat → Nat) × (Nat → Nat) × ZS × TbT × MfT × Nat × Nat × RR × Nat) → CpC := fun y As σ => match y with
  | (N, E, A, B, V, z, T, ms, nm, j, r, f) => ∃ (p1 : Nat), As = [.inr (.inr (some (E 4))), .inr (.inr (some p1))] ∧ (SsC E A B σ z T ms nm) ∧ (PfC E σ) ∧ (TgC N B σ z) ∧ (WfS z T ∧ UpS z ∧ BiC B z) ∧ (j < snM z) ∧ (p1 = B j) ∧ (RhC E B σ z r) ∧ (2 * snM z ≤ f + 1 + 2 * j)
abbrev Qz_reachSwitch : ((Int → Int) × (Nat → Nat) × (Nat → Nat) × (Nat → Nat) × (Nat → Nat) × ZS × TbT × MfT × Nat × Nat × RR × Nat) → CqC := fun y As σ w τ => match y, As with
  | (N, E, A, B, V, z, T, ms, nm, j, r, f), [_, .inr (.inr (some p1))] => ∃ v, w = some (.inl v) ∧ v.toInt = bZI (swR (rcF N z T f) z j r).1 ∧ RhC E B τ z (swR (rcF N z T f) z j r).2
  | _, _ => True
abbrev Uz_reachSwitch : CqC := fun As σ w τ => ∀ y, Pz_reachSwitch y As σ → Qz_reachSwitch y As σ w τ
abbrev Pz_reachTry : ((Int → Int) × (Nat → Nat) × (Nat → Nat) × (Nat → Nat) × (Nat → Nat) × ZS × TbT × MfT × Nat × Nat × RR × Nat) → CpC := fun y As σ => match y with
  | (N, E, A, B, V, z, T, ms, nm, j, r, f) => ∃ (p1 : Nat), As = [.inr (.inr (some (E 4))), .inr (.inr (some p1))] ∧ (SsC E A B σ z T ms nm) ∧ (PfC E σ) ∧ (TgC N B σ z) ∧ (WfS z T ∧ UpS z ∧ BiC B z) ∧ (j < snM z) ∧ (p1 = B j) ∧ (RhC E B σ z r) ∧ (2 * snM z ≤ f + 1 + 2 * j)
abbrev Qz_reachTry : ((Int → Int) × (Nat → Nat) × (Nat → Nat) × (Nat → Nat) × (Nat → Nat) × ZS × TbT × MfT × Nat × Nat × RR × Nat) → CqC := fun y As σ w τ => match y, As with
  | (N, E, A, B, V, z, T, ms, nm, j, r, f), [_, .inr (.inr (some p1))] => ∃ v, w = some (.inl v) ∧ v.toInt = bZI (tyR (rcF N z T f) z j r).1 ∧ RhC E B τ z (tyR (rcF N z T f) z j r).2
  | _, _ => True
abbrev Uz_reachTry : CqC := fun As σ w τ => ∀ y, Pz_reachTry y As σ → Qz_reachTry y As σ w τ
set_option maxHeartbeats 4000000 in
theorem pz_reach (y : (Int → Int) × (Nat → Nat) × (Nat → Nat) × (Nat → Nat) × (Nat → Nat) × ZS × TbT × MfT × Nat × Nat × RR × Bool × Nat) : PbC KX2_reach [(23, TrP, EqC 23), (118, TrP, EqC 118)] [(23, Uz_reachInside), (118, Uz_tell)] (fun As σ => Pz_reach y As σ ∧ cnC σ ≤ 1000000 ∧ ∃ w τ, uqC quL 22 As σ w τ) (Qz_reach y) := by
  obtain ⟨N, E, A, B, V, z, T, ms, nm, j, r, a, f⟩ := y
  rintro As σ ⟨⟨p1, p2, rfl, hSs, hPf, hTg, hwf, hj, hp, hR, hal, hfu⟩, hcn, _, _, hQ⟩ K hB hW n_
  obtain ⟨hwf, hup, hBi⟩ := hwf
  have op : SlC A B σ z j p1 ∧ p1 < cnC σ := by rw [hp]; exact hSs.1 j hj
  obtain ⟨f, rfl⟩ : ∃ f9, f = f9 + 1 := ⟨f - 1, by omega⟩
  change K n_ 0 [(0, .inr (.inr (some (E 4)))), (1, .inr (.inr (some p1))), (2, .inl p2)] [] σ
  refine hB _ _ _ _ _ (fun m51 hm51 => ?_)
  dsimp only [ucgo, ucwp, ucsC, uqC, uoC, ctC, rfd, KX2_reach, KX2_reach_0, KX2_reach_4, KX2_reach_19, KX2_reach_29, KX2_reach_37, KX2_reach_41, KX2_reach_42, lkC, s1C, s2C, dlC, kyC, Nat.beq, Nat.ble, rcd, rno, rsw, Nat.reduceAdd, Nat.reduceBEq, Nat.reduceDiv, List.drop, List.take, List.reverse, List.reverseAux, Int.toNat, Option.toList, List.append, List.cons_append, List.nil_append, zg90, zg271, zg272, zg282]
  refine ⟨fun h52 => ?_, fun h52 => ?_⟩
  · have g52 := (neI (x := p2) (y := 0) h52 : ¬ (p2 : Int32).toInt = (0 : Int32).toInt)
    have z0_ : (0 : Int32).toInt = 0 := rfl
    have hb52 : a = true := bZI_t (by omega)
    refine hB _ _ _ _ _ (fun m53 hm53 => ?_)
    dsimp only [ucgo, ucwp, ucsC, uqC, uoC, ctC, rfd, KX2_reach, KX2_reach_0, KX2_reach_4, KX2_reach_19, KX2_reach_29, KX2_reach_37, KX2_reach_41, KX2_reach_42, lkC, s1C, s2C, dlC, kyC, Nat.beq, Nat.ble, rcd, rno, rsw, Nat.reduceAdd, Nat.reduceBEq, Nat.reduceDiv, List.drop, List.take, List.reverse, List.reverseAux, Int.toNat, Option.toList, List.append, List.cons_append, List.nil_append, zg90, zg271, zg272, zg282]
    intro a54 e54 ob54
    cases e54
    have f55 : (fIC σ p1 272).toInt = (reS z j).1.2.2.1 := op.1.1.2.2.1
    have c56 : (Int32.ofInt 20).toInt = 20 := by decide
    refine ⟨fun h57 => ?_, fun h57 => ?_⟩
    · have g57 := ltI (x := (Int32.ofInt 20)) (y := (fIC σ p1 272)) h57
      refine hB _ _ _ _ _ (fun m58 hm58 => ?_)
      dsimp only [ucgo, ucwp, ucsC, uqC, uoC, ctC, rfd, KX2_reach, KX2_reach_0, KX2_reach_4, KX2_reach_19, KX2_reach_29, KX2_reach_37, KX2_reach_41, KX2_reach_42, lkC, s1C, s2C, dlC, kyC, Nat.beq, Nat.ble, rcd, rno, rsw, Nat.reduceAdd, Nat.reduceBEq, Nat.reduceDiv, List.drop, List.take, List.reverse, List.reverseAux, Int.toNat, Option.toList, List.append, List.cons_append, List.nil_append, zg90, zg271, zg272, zg282]
      have c59 : (Int32.ofInt 0).toInt = 0 := by decide
      refine hB _ _ _ _ _ (fun m60 hm60 => ?_)
      dsimp only [ucgo, ucwp, ucsC, uqC, uoC, ctC, rfd, KX2_reach, KX2_reach_0, KX2_reach_4, KX2_reach_19, KX2_reach_29, KX2_reach_37, KX2_reach_41, KX2_reach_42, lkC, s1C, s2C, dlC, kyC, Nat.beq, Nat.ble, rcd, rno, rsw, Nat.reduceAdd, Nat.reduceBEq, Nat.reduceDiv, List.drop, List.take, List.reverse, List.reverseAux, Int.toNat, Option.toList, List.append, List.cons_append, List.nil_append, zg90, zg271, zg272, zg282]
      intro a61 e61 ob61 fk61
      cases e61
      clear fk61 ob61
      generalize hs61 : pIC σ p1 282 (Int32.ofInt 0) = s61
      rw [hp] at hs61
      have hR61 := RhC.e (b := false) hR hBi hj hs61 (by first | omega | (show _ = (1 : Int); omega) | (show _ = (0 : Int); omega))
      have ho61 : (fIC s61 p1 282).toInt = bZI false := by rw [hp, pI_g hs61]; first | omega | (show _ = (1 : Int); omega) | (show _ = (0 : Int); omega)
      intro a62 e62 ob62
      cases e62
      try dsimp only [Qz_reach]
      have hfin : (rcF N z T (f + 1)).2.2 j a r = (false, rrE j false (r)) := by
        rw [rc_st]
        unfold stRc
        rw [hb52, if_pos rfl, if_neg (show ¬ lvS z j ≤ 20 by unfold lvS; omega)]
      rw [hfin]
      refine ⟨_, rfl, ?_, hR61⟩
      show _ = bZI _
      simp only [hb52, Bool.true_or, Bool.or_true, Bool.false_or, Bool.or_false, Bool.and_true, Bool.true_and, Bool.and_false, Bool.false_and, Bool.not_true, Bool.not_false]
      first
        | omega
        | (show _ = (1 : Int); omega)
        | (show _ = (0 : Int); omega)
    · have g57 := nltI (x := (Int32.ofInt 20)) (y := (fIC σ p1 272)) h57
      refine hB _ _ _ _ _ (fun m63 hm63 => ?_)
      dsimp only [ucgo, ucwp, ucsC, uqC, uoC, ctC, rfd, KX2_reach, KX2_reach_0, KX2_reach_4, KX2_reach_19, KX2_reach_29, KX2_reach_37, KX2_reach_41, KX2_reach_42, lkC, s1C, s2C, dlC, kyC, Nat.beq, Nat.ble, rcd, rno, rsw, Nat.reduceAdd, Nat.reduceBEq, Nat.reduceDiv, List.drop, List.take, List.reverse, List.reverseAux, Int.toNat, Option.toList, List.append, List.cons_append, List.nil_append, zg90, zg271, zg272, zg282]
      intro w64 τ64 o64 q64
      obtain ⟨v64, rfl, hv64, hR64⟩ := q64 (N, E, A, B, V, z, T, ms, nm, j, r, f) ⟨_, rfl, hSs, hPf, hTg, ⟨hwf, hup, hBi⟩, hj, hp, hR, (by have := hup j hj; omega)⟩
      obtain ⟨Q64, hQ64⟩ : ∃ q, inR (rcF N z T f) N z T j r = q := ⟨_, rfl⟩
      rw [hQ64] at hv64 hR64
      have hF64 : FrE [217, 218, 282, 283, 284] σ τ64 := FrE.mo o64.2 rfl
      have hSs_64 := SsC.fr hSs hF64 rfl
      have hPf_64 := PfC.fr hPf hF64 rfl
      have hTg_64 := TgC.fr hTg hF64 rfl
      have op_64 : SlC A B τ64 z j p1 ∧ p1 < cnC τ64 := by rw [hp]; exact hSs_64.1 j hj
      try dsimp only [Option.toList, List.cons_append, List.nil_append, s1C, s2C, dlC, kyC, Nat.beq, lkC, rcd, rno, rsw]
      refine ⟨fun h65 => ?_, fun h65 => ?_⟩
      · have g65 := (eqI (x := v64) (y := 0) h65 : (v64 : Int32).toInt = (0 : Int32).toInt)
        have z0_ : (0 : Int32).toInt = 0 := rfl
        have hb65 : Q64.1 = false := bZI_f (by omega)
        refine hB _ _ _ _ _ (fun m66 hm66 => ?_)
        dsimp only [ucgo, ucwp, ucsC, uqC, uoC, ctC, rfd, KX2_reach, KX2_reach_0, KX2_reach_4, KX2_reach_19, KX2_reach_29, KX2_reach_37, KX2_reach_41, KX2_reach_42, lkC, s1C, s2C, dlC, kyC, Nat.beq, Nat.ble, rcd, rno, rsw, Nat.reduceAdd, Nat.reduceBEq, Nat.reduceDiv, List.drop, List.take, List.reverse, List.reverseAux, Int.toNat, Option.toList, List.append, List.cons_append, List.nil_append, zg90, zg271, zg272, zg282]
        have c67 : (Int32.ofInt 0).toInt = 0 := by decide
        refine hB _ _ _ _ _ (fun m68 hm68 => ?_)
        dsimp only [ucgo, ucwp, ucsC, uqC, uoC, ctC, rfd, KX2_reach, KX2_reach_0, KX2_reach_4, KX2_reach_19, KX2_reach_29, KX2_reach_37, KX2_reach_41, KX2_reach_42, lkC, s1C, s2C, dlC, kyC, Nat.beq, Nat.ble, rcd, rno, rsw, Nat.reduceAdd, Nat.reduceBEq, Nat.reduceDiv, List.drop, List.take, List.reverse, List.reverseAux, Int.toNat, Option.toList, List.append, List.cons_append, List.nil_append, zg90, zg271, zg272, zg282]
        intro a69 e69 ob69 fk69
        cases e69
        clear fk69 ob69
        generalize hs69 : pIC τ64 p1 282 (Int32.ofInt 0) = s69
        rw [hp] at hs69
        have hR69 := RhC.e (b := false) hR64 hBi hj hs69 (by first | omega | (show _ = (1 : Int); omega) | (show _ = (0 : Int); omega))
        have ho69 : (fIC s69 p1 282).toInt = bZI false := by rw [hp, pI_g hs69]; first | omega | (show _ = (1 : Int); omega) | (show _ = (0 : Int); omega)
        intro a70 e70 ob70
        cases e70
        try dsimp only [Qz_reach]
        have hfin : (rcF N z T (f + 1)).2.2 j a r = (false, rrE j false (Q64.2)) := by
          rw [rc_st]
          unfold stRc
          rw [hb52, if_pos rfl, if_pos (show lvS z j ≤ 20 by unfold lvS; omega), hQ64]
          dsimp only
          rw [hb65]
        rw [hfin]
        refine ⟨_, rfl, ?_, hR69⟩
        show _ = bZI _
        simp only [hb52, hb65, Bool.true_or, Bool.or_true, Bool.false_or, Bool.or_false, Bool.and_true, Bool.true_and, Bool.and_false, Bool.false_and, Bool.not_true, Bool.not_false]
        first
          | omega
          | (show _ = (1 : Int); omega)
          | (show _ = (0 : Int); omega)
      · have g65 := (neI (x := v64) (y := 0) h65 : ¬ (v64 : Int32).toInt = (0 : Int32).toInt)
        have z0_ : (0 : Int32).toInt = 0 := rfl
        have hb65 : Q64.1 = true := bZI_t (by omega)
        refine hB _ _ _ _ _ (fun m71 hm71 => ?_)
        dsimp only [ucgo, ucwp, ucsC, uqC, uoC, ctC, rfd, KX2_reach, KX2_reach_0, KX2_reach_4, KX2_reach_19, KX2_reach_29, KX2_reach_37, KX2_reach_41, KX2_reach_42, lkC, s1C, s2C, dlC, kyC, Nat.beq, Nat.ble, rcd, rno, rsw, Nat.reduceAdd, Nat.reduceBEq, Nat.reduceDiv, List.drop, List.take, List.reverse, List.reverseAux, Int.toNat, Option.toList, List.append, List.cons_append, List.nil_append, zg90, zg271, zg272, zg282]
        have c72 : (Int32.ofInt 1).toInt = 1 := by decide
        refine hB _ _ _ _ _ (fun m73 hm73 => ?_)
        dsimp only [ucgo, ucwp, ucsC, uqC, uoC, ctC, rfd, KX2_reach, KX2_reach_0, KX2_reach_4, KX2_reach_19, KX2_reach_29, KX2_reach_37, KX2_reach_41, KX2_reach_42, lkC, s1C, s2C, dlC, kyC, Nat.beq, Nat.ble, rcd, rno, rsw, Nat.reduceAdd, Nat.reduceBEq, Nat.reduceDiv, List.drop, List.take, List.reverse, List.reverseAux, Int.toNat, Option.toList, List.append, List.cons_append, List.nil_append, zg90, zg271, zg272, zg282]
        intro a74 e74 ob74 fk74
        cases e74
        clear fk74 ob74
        generalize hs74 : pIC τ64 p1 282 (Int32.ofInt 1) = s74
        rw [hp] at hs74
        have hR74 := RhC.e (b := true) hR64 hBi hj hs74 (by first | omega | (show _ = (1 : Int); omega) | (show _ = (0 : Int); omega))
        have ho74 : (fIC s74 p1 282).toInt = bZI true := by rw [hp, pI_g hs74]; first | omega | (show _ = (1 : Int); omega) | (show _ = (0 : Int); omega)
        intro a75 e75 ob75
        cases e75
        try dsimp only [Qz_reach]
        have hfin : (rcF N z T (f + 1)).2.2 j a r = (true, rrE j true (Q64.2)) := by
          rw [rc_st]
          unfold stRc
          rw [hb52, if_pos rfl, if_pos (show lvS z j ≤ 20 by unfold lvS; omega), hQ64]
          dsimp only
          rw [hb65]
        rw [hfin]
        refine ⟨_, rfl, ?_, hR74⟩
        show _ = bZI _
        simp only [hb52, hb65, Bool.true_or, Bool.or_true, Bool.false_or, Bool.or_false, Bool.and_true, Bool.true_and, Bool.and_false, Bool.false_and, Bool.not_true, Bool.not_false]
        first
          | omega
          | (show _ = (1 : Int); omega)
          | (show _ = (0 : Int); omega)
  · have g52 := (eqI (x := p2) (y := 0) h52 : (p2 : Int32).toInt = (0 : Int32).toInt)
    have z0_ : (0 : Int32).toInt = 0 := rfl
    have hb52 : a = false := bZI_f (by omega)
    refine hB _ _ _ _ _ (fun m76 hm76 => ?_)
    dsimp only [ucgo, ucwp, ucsC, uqC, uoC, ctC, rfd, KX2_reach, KX2_reach_0, KX2_reach_4, KX2_reach_19, KX2_reach_29, KX2_reach_37, KX2_reach_41, KX2_reach_42, lkC, s1C, s2C, dlC, kyC, Nat.beq, Nat.ble, rcd, rno, rsw, Nat.reduceAdd, Nat.reduceBEq, Nat.reduceDiv, List.drop, List.take, List.reverse, List.reverseAux, Int.toNat, Option.toList, List.append, List.cons_append, List.nil_append, zg90, zg271, zg272, zg282]
    intro a77 e77 ob77
    cases e77
    have c79 : (Int32.ofInt 13).toInt = 13 := by decide
    intro a80 e80 ob80
    cases e80
    have f81 : (fIC σ p1 271).toInt = fiS z j := op.1.1.2.1
    rw [hPf.1]
    try dsimp only
    intro w82 τ82 o82 q82
    obtain ⟨rfl, hb_82⟩ := q82 (N, E, A, B, V, z) ⟨_, _, rfl, by omega⟩
    have hR82 := RhC.x hR o82.2 (fun j9 h9 => (hSs.1 j9 h9).2) hb_82
    have hF82 : FrE [217, 218, 282, 283, 284] σ τ82 := FrE.mo o82.2 rfl
    have hSs_82 := SsC.fr hSs hF82 rfl
    have hPf_82 := PfC.fr hPf hF82 rfl
    have hTg_82 := TgC.fr hTg hF82 rfl
    have op_82 : SlC A B τ82 z j p1 ∧ p1 < cnC τ82 := by rw [hp]; exact hSs_82.1 j hj
    try dsimp only [Option.toList, List.cons_append, List.nil_append, s1C, s2C, dlC, kyC, Nat.beq, lkC, rcd, rno, rsw]
    have c83 : (Int32.ofInt 0).toInt = 0 := by decide
    try dsimp only [Qz_reach]
    have hfin : (rcF N z T (f + 1)).2.2 j a r = (false, rrX r) := by
      rw [rc_st]
      unfold stRc
      rw [if_neg (by rw [hb52]; decide)]
    rw [hfin]
    refine ⟨_, rfl, ?_, hR82⟩
    show _ = bZI _
    simp only [hb52, Bool.true_or, Bool.or_true, Bool.false_or, Bool.or_false, Bool.and_true, Bool.true_and, Bool.and_false, Bool.false_and, Bool.not_true, Bool.not_false]
    first
      | omega
      | (show _ = (1 : Int); omega)
      | (show _ = (0 : Int); omega)
set_option maxHeartbeats 4000000 in
theorem pz_reachBody (y : (Int → Int) × (Nat → Nat) × (Nat → Nat) × (Nat → Nat) × (Nat → Nat) × ZS × TbT × MfT × Nat × Nat × RR × Bool × Nat) : PbC KX2_reachBody [(22, TrP, EqC 22)] [(22, Uz_reach)] (fun As σ => Pz_reachBody y As σ ∧ cnC σ ≤ 1000000 ∧ ∃ w τ, uqC quL 24 As σ w τ) (Qz_reachBody y) := by
  obtain ⟨N, E, A, B, V, z, T, ms, nm, j, r, a, f⟩ := y
  rintro As σ ⟨⟨p1, p2, rfl, hSs, hPf, hTg, hwf, hj, hp, hR, hal, hfu⟩, hcn, _, _, hQ⟩ K hB hW n_
  obtain ⟨hwf, hup, hBi⟩ := hwf
  have op : SlC A B σ z j p1 ∧ p1 < cnC σ := by rw [hp]; exact hSs.1 j hj
  change K n_ 0 [(0, .inr (.inr (some (E 4)))), (1, .inr (.inr (some p1))), (2, .inl p2)] [] σ
  refine hB _ _ _ _ _ (fun m51 hm51 => ?_)
  dsimp only [ucgo, ucwp, ucsC, uqC, uoC, ctC, rfd, KX2_reachBody, KX2_reachBody_0, KX2_reachBody_7, KX2_reachBody_19, KX2_reachBody_23, KX2_reachBody_24, lkC, s1C, s2C, dlC, kyC, Nat.beq, Nat.ble, rcd, rno, rsw, Nat.reduceAdd, Nat.reduceBEq, Nat.reduceDiv, List.drop, List.take, List.reverse, List.reverseAux, Int.toNat, Option.toList, List.append, List.cons_append, List.nil_append, zg276]
  intro a52 e52 ob52
  cases e52
  have f53 : (fRC σ p1 276) = opA B (bjS z j) := op.1.2.2.1
  refine ⟨fun h54 => ?_, fun b54 h54 => ?_⟩
  · have hx54 := opA_nn (f53.symm.trans h54)
    refine hB _ _ _ _ _ (fun m55 hm55 => ?_)
    dsimp only [ucgo, ucwp, ucsC, uqC, uoC, ctC, rfd, KX2_reachBody, KX2_reachBody_0, KX2_reachBody_7, KX2_reachBody_19, KX2_reachBody_23, KX2_reachBody_24, lkC, s1C, s2C, dlC, kyC, Nat.beq, Nat.ble, rcd, rno, rsw, Nat.reduceAdd, Nat.reduceBEq, Nat.reduceDiv, List.drop, List.take, List.reverse, List.reverseAux, Int.toNat, Option.toList, List.append, List.cons_append, List.nil_append, zg276]
    have c56 : (Int32.ofInt 0).toInt = 0 := by decide
    refine hB _ _ _ _ _ (fun m57 hm57 => ?_)
    dsimp only [ucgo, ucwp, ucsC, uqC, uoC, ctC, rfd, KX2_reachBody, KX2_reachBody_0, KX2_reachBody_7, KX2_reachBody_19, KX2_reachBody_23, KX2_reachBody_24, lkC, s1C, s2C, dlC, kyC, Nat.beq, Nat.ble, rcd, rno, rsw, Nat.reduceAdd, Nat.reduceBEq, Nat.reduceDiv, List.drop, List.take, List.reverse, List.reverseAux, Int.toNat, Option.toList, List.append, List.cons_append, List.nil_append, zg276]
    try dsimp only [Qz_reachBody]
    have hfin : bdR (rcF N z T f) z j a r = (false, r) := by
      unfold bdR
      rw [if_pos (by omega)]
    rw [hfin]
    refine ⟨_, rfl, ?_, hR⟩
    show _ = bZI _
    first
      | omega
      | (show _ = (1 : Int); omega)
      | (show _ = (0 : Int); omega)
  · obtain ⟨j54, hj54, hb54⟩ := opA_j (f53.symm.trans h54)
    have hwx54 := (hwf j hj).1
    have hl54 : j54 < snM z := by omega
    have o58 := hSs.1 j54 hl54
    refine hB _ _ _ _ _ (fun m59 hm59 => ?_)
    dsimp only [ucgo, ucwp, ucsC, uqC, uoC, ctC, rfd, KX2_reachBody, KX2_reachBody_0, KX2_reachBody_7, KX2_reachBody_19, KX2_reachBody_23, KX2_reachBody_24, lkC, s1C, s2C, dlC, kyC, Nat.beq, Nat.ble, rcd, rno, rsw, Nat.reduceAdd, Nat.reduceBEq, Nat.reduceDiv, List.drop, List.take, List.reverse, List.reverseAux, Int.toNat, Option.toList, List.append, List.cons_append, List.nil_append, zg276]
    intro a60 e60 ob60
    cases e60
    have f61 : (fRC σ p1 276) = some (B j54) := by rw [show (fRC σ p1 276) = opA B (bjS z j) from op.1.2.2.1, hj54, opA_k]
    intro w62 τ62 o62 q62
    rw [f61] at q62 o62
    obtain ⟨v62, rfl, hv62, hR62⟩ := q62 (N, E, A, B, V, z, T, ms, nm, j54, r, a, f) ⟨_, _, rfl, hSs, hPf, hTg, ⟨hwf, hup, hBi⟩, hl54, rfl, hR, (by first | omega | (show _ = bZI true; rw [show bZI true = 1 from rfl]; omega) | (show _ = bZI false; rw [show bZI false = 0 from rfl]; omega)), (by have := hup j hj; have := hup j54 hl54; omega)⟩
    obtain ⟨Q62, hQ62⟩ : ∃ q, (rcF N z T f).2.2 j54 a r = q := ⟨_, rfl⟩
    rw [hQ62] at hv62 hR62
    have hF62 : FrE [217, 218, 282, 283, 284] σ τ62 := FrE.mo o62.2 rfl
    have hSs_62 := SsC.fr hSs hF62 rfl
    have hPf_62 := PfC.fr hPf hF62 rfl
    have hTg_62 := TgC.fr hTg hF62 rfl
    have op_62 : SlC A B τ62 z j p1 ∧ p1 < cnC τ62 := by rw [hp]; exact hSs_62.1 j hj
    have o58_62 := hSs_62.1 j54 hl54
    try dsimp only [Option.toList, List.cons_append, List.nil_append, s1C, s2C, dlC, kyC, Nat.beq, lkC, rcd, rno, rsw]
    refine ⟨fun h63 => ?_, fun h63 => ?_⟩
    · have g63 := (eqI (x := v62) (y := 0) h63 : (v62 : Int32).toInt = (0 : Int32).toInt)
      have z0_ : (0 : Int32).toInt = 0 := rfl
      have hb63 : Q62.1 = false := bZI_f (by omega)
      refine hB _ _ _ _ _ (fun m64 hm64 => ?_)
      dsimp only [ucgo, ucwp, ucsC, uqC, uoC, ctC, rfd, KX2_reachBody, KX2_reachBody_0, KX2_reachBody_7, KX2_reachBody_19, KX2_reachBody_23, KX2_reachBody_24, lkC, s1C, s2C, dlC, kyC, Nat.beq, Nat.ble, rcd, rno, rsw, Nat.reduceAdd, Nat.reduceBEq, Nat.reduceDiv, List.drop, List.take, List.reverse, List.reverseAux, Int.toNat, Option.toList, List.append, List.cons_append, List.nil_append, zg276]
      have c65 : (Int32.ofInt 0).toInt = 0 := by decide
      refine hB _ _ _ _ _ (fun m66 hm66 => ?_)
      dsimp only [ucgo, ucwp, ucsC, uqC, uoC, ctC, rfd, KX2_reachBody, KX2_reachBody_0, KX2_reachBody_7, KX2_reachBody_19, KX2_reachBody_23, KX2_reachBody_24, lkC, s1C, s2C, dlC, kyC, Nat.beq, Nat.ble, rcd, rno, rsw, Nat.reduceAdd, Nat.reduceBEq, Nat.reduceDiv, List.drop, List.take, List.reverse, List.reverseAux, Int.toNat, Option.toList, List.append, List.cons_append, List.nil_append, zg276]
      try dsimp only [Qz_reachBody]
      have hfin : bdR (rcF N z T f) z j a r = (Q62.1, Q62.2) := by
        unfold bdR
        rw [if_neg (by omega), show (bjS z j).toNat = j54 by omega, hQ62]
      rw [hfin]
      refine ⟨_, rfl, ?_, hR62⟩
      show _ = bZI _
      simp only [hb63, Bool.true_or, Bool.or_true, Bool.false_or, Bool.or_false, Bool.and_true, Bool.true_and, Bool.and_false, Bool.false_and, Bool.not_true, Bool.not_false]
      first
        | omega
        | (show _ = (1 : Int); omega)
        | (show _ = (0 : Int); omega)
    · have g63 := (neI (x := v62) (y := 0) h63 : ¬ (v62 : Int32).toInt = (0 : Int32).toInt)
      have z0_ : (0 : Int32).toInt = 0 := rfl
      have hb63 : Q62.1 = true := bZI_t (by omega)
      refine hB _ _ _ _ _ (fun m67 hm67 => ?_)
      dsimp only [ucgo, ucwp, ucsC, uqC, uoC, ctC, rfd, KX2_reachBody, KX2_reachBody_0, KX2_reachBody_7, KX2_reachBody_19, KX2_reachBody_23, KX2_reachBody_24, lkC, s1C, s2C, dlC, kyC, Nat.beq, Nat.ble, rcd, rno, rsw, Nat.reduceAdd, Nat.reduceBEq, Nat.reduceDiv, List.drop, List.take, List.reverse, List.reverseAux, Int.toNat, Option.toList, List.append, List.cons_append, List.nil_append, zg276]
      have c68 : (Int32.ofInt 1).toInt = 1 := by decide
      refine hB _ _ _ _ _ (fun m69 hm69 => ?_)
      dsimp only [ucgo, ucwp, ucsC, uqC, uoC, ctC, rfd, KX2_reachBody, KX2_reachBody_0, KX2_reachBody_7, KX2_reachBody_19, KX2_reachBody_23, KX2_reachBody_24, lkC, s1C, s2C, dlC, kyC, Nat.beq, Nat.ble, rcd, rno, rsw, Nat.reduceAdd, Nat.reduceBEq, Nat.reduceDiv, List.drop, List.take, List.reverse, List.reverseAux, Int.toNat, Option.toList, List.append, List.cons_append, List.nil_append, zg276]
      try dsimp only [Qz_reachBody]
      have hfin : bdR (rcF N z T f) z j a r = (Q62.1, Q62.2) := by
        unfold bdR
        rw [if_neg (by omega), show (bjS z j).toNat = j54 by omega, hQ62]
      rw [hfin]
      refine ⟨_, rfl, ?_, hR62⟩
      show _ = bZI _
      simp only [hb63, Bool.true_or, Bool.or_true, Bool.false_or, Bool.or_false, Bool.and_true, Bool.true_and, Bool.and_false, Bool.false_and, Bool.not_true, Bool.not_false]
      first
        | omega
        | (show _ = (1 : Int); omega)
        | (show _ = (0 : Int); omega)
set_option maxHeartbeats 4000000 in
theorem pz_reachRow (y : (Int → Int) × (Nat → Nat) × (Nat → Nat) × (Nat → Nat) × (Nat → Nat) × ZS × TbT × MfT × Nat × Nat × RR × Nat) : PbC KX2_reachRow [(22, TrP, EqC 22)] [(22, Uz_reach)] (fun As σ => Pz_reachRow y As σ ∧ cnC σ ≤ 1000000 ∧ ∃ w τ, uqC quL 21 As σ w τ) (Qz_reachRow y) := by
  obtain ⟨N, E, A, B, V, z, T, ms, nm, j, r, f⟩ := y
  rintro As σ ⟨⟨p1, rfl, hSs, hPf, hTg, hwf, hj, hp, hR, hfu⟩, hcn, _, _, hQ⟩ K hB hW n_
  obtain ⟨hwf, hup, hBi⟩ := hwf
  have op : SlC A B σ z j p1 ∧ p1 < cnC σ := by rw [hp]; exact hSs.1 j hj
  have L7 : ∀ (n : Nat) (s0 : CsC) (al : Int32) (x9 : Int) (a9 : Bool) (r9 : RR) (fu : Nat), (FrE [217, 218, 282, 283, 284] σ s0) → (RhC E B s0 z r9) → (al.toInt = bZI a9) → (x9 < (snM z : Int)) → (0 ≤ x9 → 2 * (snM z : Int) + 1 ≤ (fu : Int) + 2 * x9) → ((rcF N z T f).1 (bjS z j) true r = (rcF N z T fu).1 x9 a9 r9) →  K n 7 [(0, .inr (.inr (some (E 4)))), (1, .inr (.inr (some p1))), (2, .inl al), (3, .inr (.inr (opA B x9)))] [] s0 := by
    intro n
    induction n using Nat.strongRecOn with
    | _ n ih =>
      intro s0 al x9 a9 r9 fu hF0 hR9 hal hx9 hfl heq
      have hSs_0 := SsC.fr hSs hF0 rfl
      have hPf_0 := PfC.fr hPf hF0 rfl
      have hTg_0 := TgC.fr hTg hF0 rfl
      have op_0 : SlC A B s0 z j p1 ∧ p1 < cnC s0 := by rw [hp]; exact hSs_0.1 j hj
      refine hB _ _ _ _ _ (fun m51 hm51 => ?_)
      dsimp only [ucgo, ucwp, ucsC, uqC, uoC, ctC, rfd, KX2_reachRow, KX2_reachRow_0, KX2_reachRow_7, KX2_reachRow_11, KX2_reachRow_26, lkC, s1C, s2C, dlC, kyC, Nat.beq, Nat.ble, rcd, rno, rsw, Nat.reduceAdd, Nat.reduceBEq, Nat.reduceDiv, List.drop, List.take, List.reverse, List.reverseAux, Int.toNat, Option.toList, List.append, List.cons_append, List.nil_append, zg275, zg276]
      refine ⟨fun h52 => ?_, fun b52 h52 => ?_⟩
      · have hx52 := opA_nn ((Eq.refl (opA B x9)).symm.trans h52)
        refine hB _ _ _ _ _ (fun m53 hm53 => ?_)
        dsimp only [ucgo, ucwp, ucsC, uqC, uoC, ctC, rfd, KX2_reachRow, KX2_reachRow_0, KX2_reachRow_7, KX2_reachRow_11, KX2_reachRow_26, lkC, s1C, s2C, dlC, kyC, Nat.beq, Nat.ble, rcd, rno, rsw, Nat.reduceAdd, Nat.reduceBEq, Nat.reduceDiv, List.drop, List.take, List.reverse, List.reverseAux, Int.toNat, Option.toList, List.append, List.cons_append, List.nil_append, zg275, zg276]
        intro a54 e54 ob54 fk54
        cases e54
        clear fk54 ob54
        generalize hs54 : pIC s0 p1 282 al = s54
        rw [hp] at hs54
        have hR54 := RhC.e (b := a9) hR9 hBi hj hs54 (by first | omega | (show _ = (1 : Int); omega) | (show _ = (0 : Int); omega))
        have ho54 : (fIC s54 p1 282).toInt = bZI a9 := by rw [hp, pI_g hs54]; first | omega | (show _ = (1 : Int); omega) | (show _ = (0 : Int); omega)
        try dsimp only [Qz_reachRow]
        have hq9 : (rcF N z T f).1 (bjS z j) true r = (a9, r9) := heq.trans (rc_r0 (by omega))
        have hfin : rwR (rcF N z T f) z j r = (a9, rrE j a9 (r9)) := by
          unfold rwR
          rw [hq9]
        rw [hfin]
        refine ⟨_, rfl, ?_, hR54⟩
        show _ = bZI _
        first
          | omega
          | (show _ = (1 : Int); omega)
          | (show _ = (0 : Int); omega)
      · obtain ⟨j52, hj52, hb52⟩ := opA_j ((Eq.refl (opA B x9)).symm.trans h52)
        have hl52 : j52 < snM z := by omega
        have o55_0 := hSs_0.1 j52 hl52
        have hf9 := hfl (by omega)
        obtain ⟨k9, rfl⟩ : ∃ k9, fu = k9 + 1 := ⟨fu - 1, by omega⟩
        rw [hj52] at heq hfl hx9
        refine hB _ _ _ _ _ (fun m56 hm56 => ?_)
        dsimp only [ucgo, ucwp, ucsC, uqC, uoC, ctC, rfd, KX2_reachRow, KX2_reachRow_0, KX2_reachRow_7, KX2_reachRow_11, KX2_reachRow_26, lkC, s1C, s2C, dlC, kyC, Nat.beq, Nat.ble, rcd, rno, rsw, Nat.reduceAdd, Nat.reduceBEq, Nat.reduceDiv, List.drop, List.take, List.reverse, List.reverseAux, Int.toNat, Option.toList, List.append, List.cons_append, List.nil_append, zg275, zg276]
        intro w57 τ57 o57 q57
        rw [(h52.trans (congrArg some hb52))] at q57 o57
        obtain ⟨v57, rfl, hv57, hR57⟩ := q57 (N, E, A, B, V, z, T, ms, nm, j52, r9, a9, k9) ⟨_, _, rfl, hSs_0, hPf_0, hTg_0, ⟨hwf, hup, hBi⟩, hl52, rfl, hR9, (by first | omega | (show _ = bZI true; rw [show bZI true = 1 from rfl]; omega) | (show _ = bZI false; rw [show bZI false = 0 from rfl]; omega)), (by have := hup j hj; have := hup j52 hl52; omega)⟩
        obtain ⟨Q57, hQ57⟩ : ∃ q, (rcF N z T k9).2.2 j52 a9 r9 = q := ⟨_, rfl⟩
        rw [hQ57] at hv57 hR57
        have hF57 : FrE [217, 218, 282, 283, 284] σ τ57 := hF0.tr (o57.2.mo rfl)
        have hSs_57 := SsC.fr hSs hF57 rfl
        have hPf_57 := PfC.fr hPf hF57 rfl
        have hTg_57 := TgC.fr hTg hF57 rfl
        have op_57 : SlC A B τ57 z j p1 ∧ p1 < cnC τ57 := by rw [hp]; exact hSs_57.1 j hj
        have o55_57 := hSs_57.1 j52 hl52
        try dsimp only [Option.toList, List.cons_append, List.nil_append, s1C, s2C, dlC, kyC, Nat.beq, lkC, rcd, rno, rsw]
        intro a58 e58 ob58
        obtain rfl : B j52 = a58 := Option.some.inj ((h52.trans (congrArg some hb52)).symm.trans e58)
        have f59 : (fRC τ57 (B j52) 275) = opA B (njS z j52) := o55_57.1.2.1
        rw [f59]
        exact hW _ 7 [(0, .inr (.inr (some (E 4)))), (1, .inr (.inr (some p1))), (2, .inl v57), (3, .inr (.inr (opA B (njS z j52))))] _ _ _ (List.forall_mem_cons.2 ⟨List.Mem.tail _ (List.Mem.tail _ (List.Mem.head _)), List.forall_mem_cons.2 ⟨List.Mem.tail _ (List.Mem.tail _ (List.Mem.tail _ (List.Mem.head _))), List.forall_mem_cons.2 ⟨List.Mem.tail _ (List.Mem.head _), List.forall_mem_cons.2 ⟨List.Mem.head _, fun _ h => absurd h List.not_mem_nil⟩⟩⟩⟩) (ih _ (by omega) τ57 v57 (njS z j52) Q57.1 Q57.2 k9 hF57 hR57 (by omega) (by have := (hwf j52 hl52).1; omega) (fun q9 => by have := hup j hj; have := hup j52 hl52; omega) (heq.trans (by rw [rc_r1, hQ57])))
  change K n_ 0 [(0, .inr (.inr (some (E 4)))), (1, .inr (.inr (some p1)))] [] σ
  refine hB _ _ _ _ _ (fun m60 hm60 => ?_)
  dsimp only [ucgo, ucwp, ucsC, uqC, uoC, ctC, rfd, KX2_reachRow, KX2_reachRow_0, KX2_reachRow_7, KX2_reachRow_11, KX2_reachRow_26, lkC, s1C, s2C, dlC, kyC, Nat.beq, Nat.ble, rcd, rno, rsw, Nat.reduceAdd, Nat.reduceBEq, Nat.reduceDiv, List.drop, List.take, List.reverse, List.reverseAux, Int.toNat, Option.toList, List.append, List.cons_append, List.nil_append, zg275, zg276]
  have c61 : (Int32.ofInt 1).toInt = 1 := by decide
  intro a62 e62 ob62
  cases e62
  have f63 : (fRC σ p1 276) = opA B (bjS z j) := op.1.2.2.1
  rw [f63]
  exact hW _ 7 [(0, .inr (.inr (some (E 4)))), (1, .inr (.inr (some p1))), (2, .inl (Int32.ofInt 1)), (3, .inr (.inr (opA B (bjS z j))))] _ _ _ (List.forall_mem_cons.2 ⟨List.Mem.tail _ (List.Mem.tail _ (List.Mem.head _)), List.forall_mem_cons.2 ⟨List.Mem.tail _ (List.Mem.tail _ (List.Mem.tail _ (List.Mem.head _))), List.forall_mem_cons.2 ⟨List.Mem.tail _ (List.Mem.head _), List.forall_mem_cons.2 ⟨List.Mem.head _, fun _ h => absurd h List.not_mem_nil⟩⟩⟩⟩) (L7 _ σ (Int32.ofInt 1) (bjS z j) true r f FrE.rf hR (by show _ = (1 : Int); omega) (by have := (hwf j hj).1; omega) (fun q9 => by have := hup j hj; omega) rfl)
set_option maxHeartbeats 4000000 in
theorem pz_reachSwitch (y : (Int → Int) × (Nat → Nat) × (Nat → Nat) × (Nat → Nat) × (Nat → Nat) × ZS × TbT × MfT × Nat × Nat × RR × Nat) : PbC KX2_reachSwitch [(22, TrP, EqC 22)] [(22, Uz_reach)] (fun As σ => Pz_reachSwitch y As σ ∧ cnC σ ≤ 1000000 ∧ ∃ w τ, uqC quL 25 As σ w τ) (Qz_reachSwitch y) := by
  obtain ⟨N, E, A, B, V, z, T, ms, nm, j, r, f⟩ := y
  rintro As σ ⟨⟨p1, rfl, hSs, hPf, hTg, hwf, hj, hp, hR, hfu⟩, hcn, _, _, hQ⟩ K hB hW n_
  obtain ⟨hwf, hup, hBi⟩ := hwf
  have op : SlC A B σ z j p1 ∧ p1 < cnC σ := by rw [hp]; exact hSs.1 j hj
  have L10 : ∀ (n : Nat) (s0 : CsC) (al : Int32) (dd : Int32) (x9 : Int) (a9 : Bool) (d9 : Bool) (r9 : RR) (fu : Nat), (FrE [217, 218, 282, 283, 284] σ s0) → (RhC E B s0 z r9) → (al.toInt = bZI a9) → (dd.toInt = bZI d9) → (x9 < (snM z : Int)) → (0 ≤ x9 → 2 * (snM z : Int) + 1 ≤ (fu : Int) + 2 * x9) → ((rcF N z T f).2.1 (bjS z j) false false r = (rcF N z T fu).2.1 x9 a9 d9 r9) →  K n 10 [(0, .inr (.inr (some (E 4)))), (1, .inr (.inr (some p1))), (2, .inl al), (3, .inl dd), (4, .inr (.inr (opA B x9)))] [] s0 := by
    intro n
    induction n using Nat.strongRecOn with
    | _ n ih =>
      intro s0 al dd x9 a9 d9 r9 fu hF0 hR9 hal hdd hx9 hfl heq
      have hSs_0 := SsC.fr hSs hF0 rfl
      have hPf_0 := PfC.fr hPf hF0 rfl
      have hTg_0 := TgC.fr hTg hF0 rfl
      have op_0 : SlC A B s0 z j p1 ∧ p1 < cnC s0 := by rw [hp]; exact hSs_0.1 j hj
      refine hB _ _ _ _ _ (fun m51 hm51 => ?_)
      dsimp only [ucgo, ucwp, ucsC, uqC, uoC, ctC, rfd, KX2_reachSwitch, KX2_reachSwitch_0, KX2_reachSwitch_10, KX2_reachSwitch_15, KX2_reachSwitch_25, KX2_reachSwitch_35, KX2_reachSwitch_48, KX2_reachSwitch_52, KX2_reachSwitch_53, KX2_reachSwitch_58, KX2_reachSwitch_66, KX2_reachSwitch_76, KX2_reachSwitch_80, KX2_reachSwitch_84, KX2_reachSwitch_91, KX2_reachSwitch_95, KX2_reachSwitch_96, lkC, s1C, s2C, dlC, kyC, Nat.beq, Nat.ble, rcd, rno, rsw, Nat.reduceAdd, Nat.reduceBEq, Nat.reduceDiv, List.drop, List.take, List.reverse, List.reverseAux, Int.toNat, Option.toList, List.append, List.cons_append, List.nil_append, zg270, zg275, zg276, zg283]
      refine ⟨fun h52 => ?_, fun b52 h52 => ?_⟩
      · have hx52 := opA_nn ((Eq.refl (opA B x9)).symm.trans h52)
        refine hB _ _ _ _ _ (fun m53 hm53 => ?_)
        dsimp only [ucgo, ucwp, ucsC, uqC, uoC, ctC, rfd, KX2_reachSwitch, KX2_reachSwitch_0, KX2_reachSwitch_10, KX2_reachSwitch_15, KX2_reachSwitch_25, KX2_reachSwitch_35, KX2_reachSwitch_48, KX2_reachSwitch_52, KX2_reachSwitch_53, KX2_reachSwitch_58, KX2_reachSwitch_66, KX2_reachSwitch_76, KX2_reachSwitch_80, KX2_reachSwitch_84, KX2_reachSwitch_91, KX2_reachSwitch_95, KX2_reachSwitch_96, lkC, s1C, s2C, dlC, kyC, Nat.beq, Nat.ble, rcd, rno, rsw, Nat.reduceAdd, Nat.reduceBEq, Nat.reduceDiv, List.drop, List.take, List.reverse, List.reverseAux, Int.toNat, Option.toList, List.append, List.cons_append, List.nil_append, zg270, zg275, zg276, zg283]
        refine ⟨fun h54 => ?_, fun h54 => ?_⟩
        · have g54 := (neI (x := al) (y := 0) h54 : ¬ (al : Int32).toInt = (0 : Int32).toInt)
          have z0_ : (0 : Int32).toInt = 0 := rfl
          have hb54 : a9 = true := bZI_t (by omega)
          refine hB _ _ _ _ _ (fun m55 hm55 => ?_)
          dsimp only [ucgo, ucwp, ucsC, uqC, uoC, ctC, rfd, KX2_reachSwitch, KX2_reachSwitch_0, KX2_reachSwitch_10, KX2_reachSwitch_15, KX2_reachSwitch_25, KX2_reachSwitch_35, KX2_reachSwitch_48, KX2_reachSwitch_52, KX2_reachSwitch_53, KX2_reachSwitch_58, KX2_reachSwitch_66, KX2_reachSwitch_76, KX2_reachSwitch_80, KX2_reachSwitch_84, KX2_reachSwitch_91, KX2_reachSwitch_95, KX2_reachSwitch_96, lkC, s1C, s2C, dlC, kyC, Nat.beq, Nat.ble, rcd, rno, rsw, Nat.reduceAdd, Nat.reduceBEq, Nat.reduceDiv, List.drop, List.take, List.reverse, List.reverseAux, Int.toNat, Option.toList, List.append, List.cons_append, List.nil_append, zg270, zg275, zg276, zg283]
          have c56 : (Int32.ofInt 1).toInt = 1 := by decide
          refine hB _ _ _ _ _ (fun m57 hm57 => ?_)
          dsimp only [ucgo, ucwp, ucsC, uqC, uoC, ctC, rfd, KX2_reachSwitch, KX2_reachSwitch_0, KX2_reachSwitch_10, KX2_reachSwitch_15, KX2_reachSwitch_25, KX2_reachSwitch_35, KX2_reachSwitch_48, KX2_reachSwitch_52, KX2_reachSwitch_53, KX2_reachSwitch_58, KX2_reachSwitch_66, KX2_reachSwitch_76, KX2_reachSwitch_80, KX2_reachSwitch_84, KX2_reachSwitch_91, KX2_reachSwitch_95, KX2_reachSwitch_96, lkC, s1C, s2C, dlC, kyC, Nat.beq, Nat.ble, rcd, rno, rsw, Nat.reduceAdd, Nat.reduceBEq, Nat.reduceDiv, List.drop, List.take, List.reverse, List.reverseAux, Int.toNat, Option.toList, List.append, List.cons_append, List.nil_append, zg270, zg275, zg276, zg283]
          try dsimp only [Qz_reachSwitch]
          have hq9 : (rcF N z T f).2.1 (bjS z j) false false r = (a9, d9, r9) := heq.trans (rc_s0 (by omega))
          have hfin : swR (rcF N z T f) z j r = ((a9 || !d9) || r9.2.1 j, r9) := by
            unfold swR
            rw [hq9]
          rw [hfin]
          refine ⟨_, rfl, ?_, hR9⟩
          show _ = bZI _
          simp only [hb54, Bool.true_or, Bool.or_true, Bool.false_or, Bool.or_false, Bool.and_true, Bool.true_and, Bool.and_false, Bool.false_and, Bool.not_true, Bool.not_false]
          first
            | omega
            | (show _ = (1 : Int); omega)
            | (show _ = (0 : Int); omega)
        · have g54 := (eqI (x := al) (y := 0) h54 : (al : Int32).toInt = (0 : Int32).toInt)
          have z0_ : (0 : Int32).toInt = 0 := rfl
          have hb54 : a9 = false := bZI_f (by omega)
          refine hB _ _ _ _ _ (fun m58 hm58 => ?_)
          dsimp only [ucgo, ucwp, ucsC, uqC, uoC, ctC, rfd, KX2_reachSwitch, KX2_reachSwitch_0, KX2_reachSwitch_10, KX2_reachSwitch_15, KX2_reachSwitch_25, KX2_reachSwitch_35, KX2_reachSwitch_48, KX2_reachSwitch_52, KX2_reachSwitch_53, KX2_reachSwitch_58, KX2_reachSwitch_66, KX2_reachSwitch_76, KX2_reachSwitch_80, KX2_reachSwitch_84, KX2_reachSwitch_91, KX2_reachSwitch_95, KX2_reachSwitch_96, lkC, s1C, s2C, dlC, kyC, Nat.beq, Nat.ble, rcd, rno, rsw, Nat.reduceAdd, Nat.reduceBEq, Nat.reduceDiv, List.drop, List.take, List.reverse, List.reverseAux, Int.toNat, Option.toList, List.append, List.cons_append, List.nil_append, zg270, zg275, zg276, zg283]
          refine ⟨fun h59 => ?_, fun h59 => ?_⟩
          · have g59 := (eqI (x := dd) (y := 0) h59 : (dd : Int32).toInt = (0 : Int32).toInt)
            have z0_ : (0 : Int32).toInt = 0 := rfl
            have hb59 : d9 = false := bZI_f (by omega)
            refine hB _ _ _ _ _ (fun m60 hm60 => ?_)
            dsimp only [ucgo, ucwp, ucsC, uqC, uoC, ctC, rfd, KX2_reachSwitch, KX2_reachSwitch_0, KX2_reachSwitch_10, KX2_reachSwitch_15, KX2_reachSwitch_25, KX2_reachSwitch_35, KX2_reachSwitch_48, KX2_reachSwitch_52, KX2_reachSwitch_53, KX2_reachSwitch_58, KX2_reachSwitch_66, KX2_reachSwitch_76, KX2_reachSwitch_80, KX2_reachSwitch_84, KX2_reachSwitch_91, KX2_reachSwitch_95, KX2_reachSwitch_96, lkC, s1C, s2C, dlC, kyC, Nat.beq, Nat.ble, rcd, rno, rsw, Nat.reduceAdd, Nat.reduceBEq, Nat.reduceDiv, List.drop, List.take, List.reverse, List.reverseAux, Int.toNat, Option.toList, List.append, List.cons_append, List.nil_append, zg270, zg275, zg276, zg283]
            have c61 : (Int32.ofInt 1).toInt = 1 := by decide
            refine hB _ _ _ _ _ (fun m62 hm62 => ?_)
            dsimp only [ucgo, ucwp, ucsC, uqC, uoC, ctC, rfd, KX2_reachSwitch, KX2_reachSwitch_0, KX2_reachSwitch_10, KX2_reachSwitch_15, KX2_reachSwitch_25, KX2_reachSwitch_35, KX2_reachSwitch_48, KX2_reachSwitch_52, KX2_reachSwitch_53, KX2_reachSwitch_58, KX2_reachSwitch_66, KX2_reachSwitch_76, KX2_reachSwitch_80, KX2_reachSwitch_84, KX2_reachSwitch_91, KX2_reachSwitch_95, KX2_reachSwitch_96, lkC, s1C, s2C, dlC, kyC, Nat.beq, Nat.ble, rcd, rno, rsw, Nat.reduceAdd, Nat.reduceBEq, Nat.reduceDiv, List.drop, List.take, List.reverse, List.reverseAux, Int.toNat, Option.toList, List.append, List.cons_append, List.nil_append, zg270, zg275, zg276, zg283]
            try dsimp only [Qz_reachSwitch]
            have hq9 : (rcF N z T f).2.1 (bjS z j) false false r = (a9, d9, r9) := heq.trans (rc_s0 (by omega))
            have hfin : swR (rcF N z T f) z j r = ((a9 || !d9) || r9.2.1 j, r9) := by
              unfold swR
              rw [hq9]
            rw [hfin]
            refine ⟨_, rfl, ?_, hR9⟩
            show _ = bZI _
            simp only [hb54, hb59, Bool.true_or, Bool.or_true, Bool.false_or, Bool.or_false, Bool.and_true, Bool.true_and, Bool.and_false, Bool.false_and, Bool.not_true, Bool.not_false]
            first
              | omega
              | (show _ = (1 : Int); omega)
              | (show _ = (0 : Int); omega)
          · have g59 := (neI (x := dd) (y := 0) h59 : ¬ (dd : Int32).toInt = (0 : Int32).toInt)
            have z0_ : (0 : Int32).toInt = 0 := rfl
            have hb59 : d9 = true := bZI_t (by omega)
            refine hB _ _ _ _ _ (fun m63 hm63 => ?_)
            dsimp only [ucgo, ucwp, ucsC, uqC, uoC, ctC, rfd, KX2_reachSwitch, KX2_reachSwitch_0, KX2_reachSwitch_10, KX2_reachSwitch_15, KX2_reachSwitch_25, KX2_reachSwitch_35, KX2_reachSwitch_48, KX2_reachSwitch_52, KX2_reachSwitch_53, KX2_reachSwitch_58, KX2_reachSwitch_66, KX2_reachSwitch_76, KX2_reachSwitch_80, KX2_reachSwitch_84, KX2_reachSwitch_91, KX2_reachSwitch_95, KX2_reachSwitch_96, lkC, s1C, s2C, dlC, kyC, Nat.beq, Nat.ble, rcd, rno, rsw, Nat.reduceAdd, Nat.reduceBEq, Nat.reduceDiv, List.drop, List.take, List.reverse, List.reverseAux, Int.toNat, Option.toList, List.append, List.cons_append, List.nil_append, zg270, zg275, zg276, zg283]
            intro a64 e64 ob64
            cases e64
            have f65 : (fIC s0 p1 283).toInt = bZI (r9.2.1 j) := by rw [hp]; exact (hR9.1 j hj).2.1
            refine ⟨fun h66 => ?_, fun h66 => ?_⟩
            · have g66 := (eqI (x := (fIC s0 p1 283)) (y := 0) h66 : ((fIC s0 p1 283) : Int32).toInt = (0 : Int32).toInt)
              have z0_ : (0 : Int32).toInt = 0 := rfl
              have hb66 : (r9.2.1 j) = false := bZI_f (by omega)
              refine hB _ _ _ _ _ (fun m67 hm67 => ?_)
              dsimp only [ucgo, ucwp, ucsC, uqC, uoC, ctC, rfd, KX2_reachSwitch, KX2_reachSwitch_0, KX2_reachSwitch_10, KX2_reachSwitch_15, KX2_reachSwitch_25, KX2_reachSwitch_35, KX2_reachSwitch_48, KX2_reachSwitch_52, KX2_reachSwitch_53, KX2_reachSwitch_58, KX2_reachSwitch_66, KX2_reachSwitch_76, KX2_reachSwitch_80, KX2_reachSwitch_84, KX2_reachSwitch_91, KX2_reachSwitch_95, KX2_reachSwitch_96, lkC, s1C, s2C, dlC, kyC, Nat.beq, Nat.ble, rcd, rno, rsw, Nat.reduceAdd, Nat.reduceBEq, Nat.reduceDiv, List.drop, List.take, List.reverse, List.reverseAux, Int.toNat, Option.toList, List.append, List.cons_append, List.nil_append, zg270, zg275, zg276, zg283]
              have c68 : (Int32.ofInt 0).toInt = 0 := by decide
              refine hB _ _ _ _ _ (fun m69 hm69 => ?_)
              dsimp only [ucgo, ucwp, ucsC, uqC, uoC, ctC, rfd, KX2_reachSwitch, KX2_reachSwitch_0, KX2_reachSwitch_10, KX2_reachSwitch_15, KX2_reachSwitch_25, KX2_reachSwitch_35, KX2_reachSwitch_48, KX2_reachSwitch_52, KX2_reachSwitch_53, KX2_reachSwitch_58, KX2_reachSwitch_66, KX2_reachSwitch_76, KX2_reachSwitch_80, KX2_reachSwitch_84, KX2_reachSwitch_91, KX2_reachSwitch_95, KX2_reachSwitch_96, lkC, s1C, s2C, dlC, kyC, Nat.beq, Nat.ble, rcd, rno, rsw, Nat.reduceAdd, Nat.reduceBEq, Nat.reduceDiv, List.drop, List.take, List.reverse, List.reverseAux, Int.toNat, Option.toList, List.append, List.cons_append, List.nil_append, zg270, zg275, zg276, zg283]
              try dsimp only [Qz_reachSwitch]
              have hq9 : (rcF N z T f).2.1 (bjS z j) false false r = (a9, d9, r9) := heq.trans (rc_s0 (by omega))
              have hfin : swR (rcF N z T f) z j r = ((a9 || !d9) || r9.2.1 j, r9) := by
                unfold swR
                rw [hq9]
              rw [hfin]
              refine ⟨_, rfl, ?_, hR9⟩
              show _ = bZI _
              simp only [hb54, hb59, hb66, Bool.true_or, Bool.or_true, Bool.false_or, Bool.or_false, Bool.and_true, Bool.true_and, Bool.and_false, Bool.false_and, Bool.not_true, Bool.not_false]
              first
                | omega
                | (show _ = (1 : Int); omega)
                | (show _ = (0 : Int); omega)
            · have g66 := (neI (x := (fIC s0 p1 283)) (y := 0) h66 : ¬ ((fIC s0 p1 283) : Int32).toInt = (0 : Int32).toInt)
              have z0_ : (0 : Int32).toInt = 0 := rfl
              have hb66 : (r9.2.1 j) = true := bZI_t (by omega)
              refine hB _ _ _ _ _ (fun m70 hm70 => ?_)
              dsimp only [ucgo, ucwp, ucsC, uqC, uoC, ctC, rfd, KX2_reachSwitch, KX2_reachSwitch_0, KX2_reachSwitch_10, KX2_reachSwitch_15, KX2_reachSwitch_25, KX2_reachSwitch_35, KX2_reachSwitch_48, KX2_reachSwitch_52, KX2_reachSwitch_53, KX2_reachSwitch_58, KX2_reachSwitch_66, KX2_reachSwitch_76, KX2_reachSwitch_80, KX2_reachSwitch_84, KX2_reachSwitch_91, KX2_reachSwitch_95, KX2_reachSwitch_96, lkC, s1C, s2C, dlC, kyC, Nat.beq, Nat.ble, rcd, rno, rsw, Nat.reduceAdd, Nat.reduceBEq, Nat.reduceDiv, List.drop, List.take, List.reverse, List.reverseAux, Int.toNat, Option.toList, List.append, List.cons_append, List.nil_append, zg270, zg275, zg276, zg283]
              have c71 : (Int32.ofInt 1).toInt = 1 := by decide
              refine hB _ _ _ _ _ (fun m72 hm72 => ?_)
              dsimp only [ucgo, ucwp, ucsC, uqC, uoC, ctC, rfd, KX2_reachSwitch, KX2_reachSwitch_0, KX2_reachSwitch_10, KX2_reachSwitch_15, KX2_reachSwitch_25, KX2_reachSwitch_35, KX2_reachSwitch_48, KX2_reachSwitch_52, KX2_reachSwitch_53, KX2_reachSwitch_58, KX2_reachSwitch_66, KX2_reachSwitch_76, KX2_reachSwitch_80, KX2_reachSwitch_84, KX2_reachSwitch_91, KX2_reachSwitch_95, KX2_reachSwitch_96, lkC, s1C, s2C, dlC, kyC, Nat.beq, Nat.ble, rcd, rno, rsw, Nat.reduceAdd, Nat.reduceBEq, Nat.reduceDiv, List.drop, List.take, List.reverse, List.reverseAux, Int.toNat, Option.toList, List.append, List.cons_append, List.nil_append, zg270, zg275, zg276, zg283]
              try dsimp only [Qz_reachSwitch]
              have hq9 : (rcF N z T f).2.1 (bjS z j) false false r = (a9, d9, r9) := heq.trans (rc_s0 (by omega))
              have hfin : swR (rcF N z T f) z j r = ((a9 || !d9) || r9.2.1 j, r9) := by
                unfold swR
                rw [hq9]
              rw [hfin]
              refine ⟨_, rfl, ?_, hR9⟩
              show _ = bZI _
              simp only [hb54, hb59, hb66, Bool.true_or, Bool.or_true, Bool.false_or, Bool.or_false, Bool.and_true, Bool.true_and, Bool.and_false, Bool.false_and, Bool.not_true, Bool.not_false]
              first
                | omega
                | (show _ = (1 : Int); omega)
                | (show _ = (0 : Int); omega)
      · obtain ⟨j52, hj52, hb52⟩ := opA_j ((Eq.refl (opA B x9)).symm.trans h52)
        have hl52 : j52 < snM z := by omega
        have o73_0 := hSs_0.1 j52 hl52
        have hf9 := hfl (by omega)
        obtain ⟨k9, rfl⟩ : ∃ k9, fu = k9 + 1 := ⟨fu - 1, by omega⟩
        rw [hj52] at heq hfl hx9
        refine hB _ _ _ _ _ (fun m74 hm74 => ?_)
        dsimp only [ucgo, ucwp, ucsC, uqC, uoC, ctC, rfd, KX2_reachSwitch, KX2_reachSwitch_0, KX2_reachSwitch_10, KX2_reachSwitch_15, KX2_reachSwitch_25, KX2_reachSwitch_35, KX2_reachSwitch_48, KX2_reachSwitch_52, KX2_reachSwitch_53, KX2_reachSwitch_58, KX2_reachSwitch_66, KX2_reachSwitch_76, KX2_reachSwitch_80, KX2_reachSwitch_84, KX2_reachSwitch_91, KX2_reachSwitch_95, KX2_reachSwitch_96, lkC, s1C, s2C, dlC, kyC, Nat.beq, Nat.ble, rcd, rno, rsw, Nat.reduceAdd, Nat.reduceBEq, Nat.reduceDiv, List.drop, List.take, List.reverse, List.reverseAux, Int.toNat, Option.toList, List.append, List.cons_append, List.nil_append, zg270, zg275, zg276, zg283]
        intro a75 e75 ob75
        obtain rfl : B j52 = a75 := Option.some.inj ((h52.trans (congrArg some hb52)).symm.trans e75)
        have f76 : (fIC s0 (B j52) 270).toInt = kjS z j52 := o73_0.1.1.1
        have c77 : (Int32.ofInt 62).toInt = 62 := by decide
        refine ⟨fun h78 => ?_, fun h78 => ?_⟩
        · have g78 := (eqI (x := (fIC s0 (B j52) 270)) (y := (Int32.ofInt 62)) h78 : ((fIC s0 (B j52) 270) : Int32).toInt = ((Int32.ofInt 62) : Int32).toInt)
          refine hB _ _ _ _ _ (fun m79 hm79 => ?_)
          dsimp only [ucgo, ucwp, ucsC, uqC, uoC, ctC, rfd, KX2_reachSwitch, KX2_reachSwitch_0, KX2_reachSwitch_10, KX2_reachSwitch_15, KX2_reachSwitch_25, KX2_reachSwitch_35, KX2_reachSwitch_48, KX2_reachSwitch_52, KX2_reachSwitch_53, KX2_reachSwitch_58, KX2_reachSwitch_66, KX2_reachSwitch_76, KX2_reachSwitch_80, KX2_reachSwitch_84, KX2_reachSwitch_91, KX2_reachSwitch_95, KX2_reachSwitch_96, lkC, s1C, s2C, dlC, kyC, Nat.beq, Nat.ble, rcd, rno, rsw, Nat.reduceAdd, Nat.reduceBEq, Nat.reduceDiv, List.drop, List.take, List.reverse, List.reverseAux, Int.toNat, Option.toList, List.append, List.cons_append, List.nil_append, zg270, zg275, zg276, zg283]
          have c80 : (Int32.ofInt 1).toInt = 1 := by decide
          intro a81 e81 ob81
          obtain rfl : B j52 = a81 := Option.some.inj ((h52.trans (congrArg some hb52)).symm.trans e81)
          have f82 : (fIC s0 (B j52) 270).toInt = kjS z j52 := o73_0.1.1.1
          have c83 : (Int32.ofInt 63).toInt = 63 := by decide
          refine ⟨fun h84 => ?_, fun h84 => ?_⟩
          · have g84 := (neI (x := (fIC s0 (B j52) 270)) (y := (Int32.ofInt 63)) h84 : ¬ ((fIC s0 (B j52) 270) : Int32).toInt = ((Int32.ofInt 63) : Int32).toInt)
            refine hB _ _ _ _ _ (fun m85 hm85 => ?_)
            dsimp only [ucgo, ucwp, ucsC, uqC, uoC, ctC, rfd, KX2_reachSwitch, KX2_reachSwitch_0, KX2_reachSwitch_10, KX2_reachSwitch_15, KX2_reachSwitch_25, KX2_reachSwitch_35, KX2_reachSwitch_48, KX2_reachSwitch_52, KX2_reachSwitch_53, KX2_reachSwitch_58, KX2_reachSwitch_66, KX2_reachSwitch_76, KX2_reachSwitch_80, KX2_reachSwitch_84, KX2_reachSwitch_91, KX2_reachSwitch_95, KX2_reachSwitch_96, lkC, s1C, s2C, dlC, kyC, Nat.beq, Nat.ble, rcd, rno, rsw, Nat.reduceAdd, Nat.reduceBEq, Nat.reduceDiv, List.drop, List.take, List.reverse, List.reverseAux, Int.toNat, Option.toList, List.append, List.cons_append, List.nil_append, zg270, zg275, zg276, zg283]
            have c86 : (Int32.ofInt 0).toInt = 0 := by decide
            refine hB _ _ _ _ _ (fun m87 hm87 => ?_)
            dsimp only [ucgo, ucwp, ucsC, uqC, uoC, ctC, rfd, KX2_reachSwitch, KX2_reachSwitch_0, KX2_reachSwitch_10, KX2_reachSwitch_15, KX2_reachSwitch_25, KX2_reachSwitch_35, KX2_reachSwitch_48, KX2_reachSwitch_52, KX2_reachSwitch_53, KX2_reachSwitch_58, KX2_reachSwitch_66, KX2_reachSwitch_76, KX2_reachSwitch_80, KX2_reachSwitch_84, KX2_reachSwitch_91, KX2_reachSwitch_95, KX2_reachSwitch_96, lkC, s1C, s2C, dlC, kyC, Nat.beq, Nat.ble, rcd, rno, rsw, Nat.reduceAdd, Nat.reduceBEq, Nat.reduceDiv, List.drop, List.take, List.reverse, List.reverseAux, Int.toNat, Option.toList, List.append, List.cons_append, List.nil_append, zg270, zg275, zg276, zg283]
            have io88 : (dd ||| (Int32.ofInt 0)).toInt = bZI (d9 || false) := ior_b (show (dd : Int32).toInt = bZI d9 by first | omega | (rw [show bZI false = 0 from rfl]; omega) | (rw [show bZI true = 1 from rfl]; omega)) (show ((Int32.ofInt 0) : Int32).toInt = bZI false by first | omega | (rw [show bZI false = 0 from rfl]; omega) | (rw [show bZI true = 1 from rfl]; omega))
            refine hB _ _ _ _ _ (fun m89 hm89 => ?_)
            dsimp only [ucgo, ucwp, ucsC, uqC, uoC, ctC, rfd, KX2_reachSwitch, KX2_reachSwitch_0, KX2_reachSwitch_10, KX2_reachSwitch_15, KX2_reachSwitch_25, KX2_reachSwitch_35, KX2_reachSwitch_48, KX2_reachSwitch_52, KX2_reachSwitch_53, KX2_reachSwitch_58, KX2_reachSwitch_66, KX2_reachSwitch_76, KX2_reachSwitch_80, KX2_reachSwitch_84, KX2_reachSwitch_91, KX2_reachSwitch_95, KX2_reachSwitch_96, lkC, s1C, s2C, dlC, kyC, Nat.beq, Nat.ble, rcd, rno, rsw, Nat.reduceAdd, Nat.reduceBEq, Nat.reduceDiv, List.drop, List.take, List.reverse, List.reverseAux, Int.toNat, Option.toList, List.append, List.cons_append, List.nil_append, zg270, zg275, zg276, zg283]
            intro a90 e90 ob90
            obtain rfl : B j52 = a90 := Option.some.inj ((h52.trans (congrArg some hb52)).symm.trans e90)
            have f91 : (fRC s0 (B j52) 275) = opA B (njS z j52) := o73_0.1.2.1
            rw [f91]
            exact hW _ 10 [(0, .inr (.inr (some (E 4)))), (1, .inr (.inr (some p1))), (2, .inl (Int32.ofInt 1)), (3, .inl (dd ||| (Int32.ofInt 0))), (4, .inr (.inr (opA B (njS z j52))))] _ _ _ (List.forall_mem_cons.2 ⟨List.Mem.tail _ (List.Mem.tail _ (List.Mem.tail _ (List.Mem.head _))), List.forall_mem_cons.2 ⟨List.Mem.tail _ (List.Mem.tail _ (List.Mem.tail _ (List.Mem.tail _ (List.Mem.head _)))), List.forall_mem_cons.2 ⟨List.Mem.tail _ (List.Mem.tail _ (List.Mem.head _)), List.forall_mem_cons.2 ⟨List.Mem.tail _ (List.Mem.head _), List.forall_mem_cons.2 ⟨List.Mem.head _, fun _ h => absurd h List.not_mem_nil⟩⟩⟩⟩⟩) (ih _ (by omega) s0 (Int32.ofInt 1) (dd ||| (Int32.ofInt 0)) (njS z j52) true (d9 || false) r9 k9 hF0 hR9 (by show _ = (1 : Int); omega) (by omega) (by have := (hwf j52 hl52).1; omega) (fun q9 => by have := hup j hj; have := hup j52 hl52; omega) (heq.trans (by rw [rc_s1 (by omega), decide_eq_false (show ¬ kjS z j52 = 63 by omega)])))
          · have g84 := (eqI (x := (fIC s0 (B j52) 270)) (y := (Int32.ofInt 63)) h84 : ((fIC s0 (B j52) 270) : Int32).toInt = ((Int32.ofInt 63) : Int32).toInt)
            refine hB _ _ _ _ _ (fun m92 hm92 => ?_)
            dsimp only [ucgo, ucwp, ucsC, uqC, uoC, ctC, rfd, KX2_reachSwitch, KX2_reachSwitch_0, KX2_reachSwitch_10, KX2_reachSwitch_15, KX2_reachSwitch_25, KX2_reachSwitch_35, KX2_reachSwitch_48, KX2_reachSwitch_52, KX2_reachSwitch_53, KX2_reachSwitch_58, KX2_reachSwitch_66, KX2_reachSwitch_76, KX2_reachSwitch_80, KX2_reachSwitch_84, KX2_reachSwitch_91, KX2_reachSwitch_95, KX2_reachSwitch_96, lkC, s1C, s2C, dlC, kyC, Nat.beq, Nat.ble, rcd, rno, rsw, Nat.reduceAdd, Nat.reduceBEq, Nat.reduceDiv, List.drop, List.take, List.reverse, List.reverseAux, Int.toNat, Option.toList, List.append, List.cons_append, List.nil_append, zg270, zg275, zg276, zg283]
            have c93 : (Int32.ofInt 1).toInt = 1 := by decide
            refine hB _ _ _ _ _ (fun m94 hm94 => ?_)
            dsimp only [ucgo, ucwp, ucsC, uqC, uoC, ctC, rfd, KX2_reachSwitch, KX2_reachSwitch_0, KX2_reachSwitch_10, KX2_reachSwitch_15, KX2_reachSwitch_25, KX2_reachSwitch_35, KX2_reachSwitch_48, KX2_reachSwitch_52, KX2_reachSwitch_53, KX2_reachSwitch_58, KX2_reachSwitch_66, KX2_reachSwitch_76, KX2_reachSwitch_80, KX2_reachSwitch_84, KX2_reachSwitch_91, KX2_reachSwitch_95, KX2_reachSwitch_96, lkC, s1C, s2C, dlC, kyC, Nat.beq, Nat.ble, rcd, rno, rsw, Nat.reduceAdd, Nat.reduceBEq, Nat.reduceDiv, List.drop, List.take, List.reverse, List.reverseAux, Int.toNat, Option.toList, List.append, List.cons_append, List.nil_append, zg270, zg275, zg276, zg283]
            have io95 : (dd ||| (Int32.ofInt 1)).toInt = bZI (d9 || true) := ior_b (show (dd : Int32).toInt = bZI d9 by first | omega | (rw [show bZI false = 0 from rfl]; omega) | (rw [show bZI true = 1 from rfl]; omega)) (show ((Int32.ofInt 1) : Int32).toInt = bZI true by first | omega | (rw [show bZI false = 0 from rfl]; omega) | (rw [show bZI true = 1 from rfl]; omega))
            refine hB _ _ _ _ _ (fun m96 hm96 => ?_)
            dsimp only [ucgo, ucwp, ucsC, uqC, uoC, ctC, rfd, KX2_reachSwitch, KX2_reachSwitch_0, KX2_reachSwitch_10, KX2_reachSwitch_15, KX2_reachSwitch_25, KX2_reachSwitch_35, KX2_reachSwitch_48, KX2_reachSwitch_52, KX2_reachSwitch_53, KX2_reachSwitch_58, KX2_reachSwitch_66, KX2_reachSwitch_76, KX2_reachSwitch_80, KX2_reachSwitch_84, KX2_reachSwitch_91, KX2_reachSwitch_95, KX2_reachSwitch_96, lkC, s1C, s2C, dlC, kyC, Nat.beq, Nat.ble, rcd, rno, rsw, Nat.reduceAdd, Nat.reduceBEq, Nat.reduceDiv, List.drop, List.take, List.reverse, List.reverseAux, Int.toNat, Option.toList, List.append, List.cons_append, List.nil_append, zg270, zg275, zg276, zg283]
            intro a97 e97 ob97
            obtain rfl : B j52 = a97 := Option.some.inj ((h52.trans (congrArg some hb52)).symm.trans e97)
            have f98 : (fRC s0 (B j52) 275) = opA B (njS z j52) := o73_0.1.2.1
            rw [f98]
            exact hW _ 10 [(0, .inr (.inr (some (E 4)))), (1, .inr (.inr (some p1))), (2, .inl (Int32.ofInt 1)), (3, .inl (dd ||| (Int32.ofInt 1))), (4, .inr (.inr (opA B (njS z j52))))] _ _ _ (List.forall_mem_cons.2 ⟨List.Mem.tail _ (List.Mem.tail _ (List.Mem.tail _ (List.Mem.head _))), List.forall_mem_cons.2 ⟨List.Mem.tail _ (List.Mem.tail _ (List.Mem.tail _ (List.Mem.tail _ (List.Mem.head _)))), List.forall_mem_cons.2 ⟨List.Mem.tail _ (List.Mem.tail _ (List.Mem.head _)), List.forall_mem_cons.2 ⟨List.Mem.tail _ (List.Mem.head _), List.forall_mem_cons.2 ⟨List.Mem.head _, fun _ h => absurd h List.not_mem_nil⟩⟩⟩⟩⟩) (ih _ (by omega) s0 (Int32.ofInt 1) (dd ||| (Int32.ofInt 1)) (njS z j52) true (d9 || true) r9 k9 hF0 hR9 (by show _ = (1 : Int); omega) (by omega) (by have := (hwf j52 hl52).1; omega) (fun q9 => by have := hup j hj; have := hup j52 hl52; omega) (heq.trans (by rw [rc_s1 (by omega), decide_eq_true (show kjS z j52 = 63 by omega)])))
        · have g78 := (neI (x := (fIC s0 (B j52) 270)) (y := (Int32.ofInt 62)) h78 : ¬ ((fIC s0 (B j52) 270) : Int32).toInt = ((Int32.ofInt 62) : Int32).toInt)
          refine hB _ _ _ _ _ (fun m99 hm99 => ?_)
          dsimp only [ucgo, ucwp, ucsC, uqC, uoC, ctC, rfd, KX2_reachSwitch, KX2_reachSwitch_0, KX2_reachSwitch_10, KX2_reachSwitch_15, KX2_reachSwitch_25, KX2_reachSwitch_35, KX2_reachSwitch_48, KX2_reachSwitch_52, KX2_reachSwitch_53, KX2_reachSwitch_58, KX2_reachSwitch_66, KX2_reachSwitch_76, KX2_reachSwitch_80, KX2_reachSwitch_84, KX2_reachSwitch_91, KX2_reachSwitch_95, KX2_reachSwitch_96, lkC, s1C, s2C, dlC, kyC, Nat.beq, Nat.ble, rcd, rno, rsw, Nat.reduceAdd, Nat.reduceBEq, Nat.reduceDiv, List.drop, List.take, List.reverse, List.reverseAux, Int.toNat, Option.toList, List.append, List.cons_append, List.nil_append, zg270, zg275, zg276, zg283]
          intro a100 e100 ob100
          obtain rfl : B j52 = a100 := Option.some.inj ((h52.trans (congrArg some hb52)).symm.trans e100)
          have f101 : (fIC s0 (B j52) 270).toInt = kjS z j52 := o73_0.1.1.1
          have c102 : (Int32.ofInt 63).toInt = 63 := by decide
          refine ⟨fun h103 => ?_, fun h103 => ?_⟩
          · have g103 := (neI (x := (fIC s0 (B j52) 270)) (y := (Int32.ofInt 63)) h103 : ¬ ((fIC s0 (B j52) 270) : Int32).toInt = ((Int32.ofInt 63) : Int32).toInt)
            refine hB _ _ _ _ _ (fun m104 hm104 => ?_)
            dsimp only [ucgo, ucwp, ucsC, uqC, uoC, ctC, rfd, KX2_reachSwitch, KX2_reachSwitch_0, KX2_reachSwitch_10, KX2_reachSwitch_15, KX2_reachSwitch_25, KX2_reachSwitch_35, KX2_reachSwitch_48, KX2_reachSwitch_52, KX2_reachSwitch_53, KX2_reachSwitch_58, KX2_reachSwitch_66, KX2_reachSwitch_76, KX2_reachSwitch_80, KX2_reachSwitch_84, KX2_reachSwitch_91, KX2_reachSwitch_95, KX2_reachSwitch_96, lkC, s1C, s2C, dlC, kyC, Nat.beq, Nat.ble, rcd, rno, rsw, Nat.reduceAdd, Nat.reduceBEq, Nat.reduceDiv, List.drop, List.take, List.reverse, List.reverseAux, Int.toNat, Option.toList, List.append, List.cons_append, List.nil_append, zg270, zg275, zg276, zg283]
            intro w105 τ105 o105 q105
            rw [(h52.trans (congrArg some hb52))] at q105 o105
            obtain ⟨v105, rfl, hv105, hR105⟩ := q105 (N, E, A, B, V, z, T, ms, nm, j52, r9, a9, k9) ⟨_, _, rfl, hSs_0, hPf_0, hTg_0, ⟨hwf, hup, hBi⟩, hl52, rfl, hR9, (by first | omega | (show _ = bZI true; rw [show bZI true = 1 from rfl]; omega) | (show _ = bZI false; rw [show bZI false = 0 from rfl]; omega)), (by have := hup j hj; have := hup j52 hl52; omega)⟩
            obtain ⟨Q105, hQ105⟩ : ∃ q, (rcF N z T k9).2.2 j52 a9 r9 = q := ⟨_, rfl⟩
            rw [hQ105] at hv105 hR105
            have hF105 : FrE [217, 218, 282, 283, 284] σ τ105 := hF0.tr (o105.2.mo rfl)
            have hSs_105 := SsC.fr hSs hF105 rfl
            have hPf_105 := PfC.fr hPf hF105 rfl
            have hTg_105 := TgC.fr hTg hF105 rfl
            have op_105 : SlC A B τ105 z j p1 ∧ p1 < cnC τ105 := by rw [hp]; exact hSs_105.1 j hj
            have o73_105 := hSs_105.1 j52 hl52
            try dsimp only [Option.toList, List.cons_append, List.nil_append, s1C, s2C, dlC, kyC, Nat.beq, lkC, rcd, rno, rsw]
            refine hB _ _ _ _ _ (fun m106 hm106 => ?_)
            dsimp only [ucgo, ucwp, ucsC, uqC, uoC, ctC, rfd, KX2_reachSwitch, KX2_reachSwitch_0, KX2_reachSwitch_10, KX2_reachSwitch_15, KX2_reachSwitch_25, KX2_reachSwitch_35, KX2_reachSwitch_48, KX2_reachSwitch_52, KX2_reachSwitch_53, KX2_reachSwitch_58, KX2_reachSwitch_66, KX2_reachSwitch_76, KX2_reachSwitch_80, KX2_reachSwitch_84, KX2_reachSwitch_91, KX2_reachSwitch_95, KX2_reachSwitch_96, lkC, s1C, s2C, dlC, kyC, Nat.beq, Nat.ble, rcd, rno, rsw, Nat.reduceAdd, Nat.reduceBEq, Nat.reduceDiv, List.drop, List.take, List.reverse, List.reverseAux, Int.toNat, Option.toList, List.append, List.cons_append, List.nil_append, zg270, zg275, zg276, zg283]
            intro a107 e107 ob107
            obtain rfl : B j52 = a107 := Option.some.inj ((h52.trans (congrArg some hb52)).symm.trans e107)
            have f108 : (fRC τ105 (B j52) 275) = opA B (njS z j52) := o73_105.1.2.1
            rw [f108]
            exact hW _ 10 [(0, .inr (.inr (some (E 4)))), (1, .inr (.inr (some p1))), (2, .inl v105), (3, .inl dd), (4, .inr (.inr (opA B (njS z j52))))] _ _ _ (List.forall_mem_cons.2 ⟨List.Mem.tail _ (List.Mem.tail _ (List.Mem.head _)), List.forall_mem_cons.2 ⟨List.Mem.tail _ (List.Mem.tail _ (List.Mem.tail _ (List.Mem.head _))), List.forall_mem_cons.2 ⟨List.Mem.tail _ (List.Mem.head _), List.forall_mem_cons.2 ⟨List.Mem.tail _ (List.Mem.tail _ (List.Mem.tail _ (List.Mem.tail _ (List.Mem.head _)))), List.forall_mem_cons.2 ⟨List.Mem.head _, fun _ h => absurd h List.not_mem_nil⟩⟩⟩⟩⟩) (ih _ (by omega) τ105 v105 dd (njS z j52) Q105.1 d9 Q105.2 k9 hF105 hR105 (by omega) hdd (by have := (hwf j52 hl52).1; omega) (fun q9 => by have := hup j hj; have := hup j52 hl52; omega) (heq.trans (by rw [rc_s2 (by omega), hQ105])))
          · have g103 := (eqI (x := (fIC s0 (B j52) 270)) (y := (Int32.ofInt 63)) h103 : ((fIC s0 (B j52) 270) : Int32).toInt = ((Int32.ofInt 63) : Int32).toInt)
            refine hB _ _ _ _ _ (fun m109 hm109 => ?_)
            dsimp only [ucgo, ucwp, ucsC, uqC, uoC, ctC, rfd, KX2_reachSwitch, KX2_reachSwitch_0, KX2_reachSwitch_10, KX2_reachSwitch_15, KX2_reachSwitch_25, KX2_reachSwitch_35, KX2_reachSwitch_48, KX2_reachSwitch_52, KX2_reachSwitch_53, KX2_reachSwitch_58, KX2_reachSwitch_66, KX2_reachSwitch_76, KX2_reachSwitch_80, KX2_reachSwitch_84, KX2_reachSwitch_91, KX2_reachSwitch_95, KX2_reachSwitch_96, lkC, s1C, s2C, dlC, kyC, Nat.beq, Nat.ble, rcd, rno, rsw, Nat.reduceAdd, Nat.reduceBEq, Nat.reduceDiv, List.drop, List.take, List.reverse, List.reverseAux, Int.toNat, Option.toList, List.append, List.cons_append, List.nil_append, zg270, zg275, zg276, zg283]
            have c110 : (Int32.ofInt 1).toInt = 1 := by decide
            intro a111 e111 ob111
            obtain rfl : B j52 = a111 := Option.some.inj ((h52.trans (congrArg some hb52)).symm.trans e111)
            have f112 : (fIC s0 (B j52) 270).toInt = kjS z j52 := o73_0.1.1.1
            have c113 : (Int32.ofInt 63).toInt = 63 := by decide
            refine ⟨fun h114 => ?_, fun h114 => ?_⟩
            · have g114 := (neI (x := (fIC s0 (B j52) 270)) (y := (Int32.ofInt 63)) h114 : ¬ ((fIC s0 (B j52) 270) : Int32).toInt = ((Int32.ofInt 63) : Int32).toInt)
              refine hB _ _ _ _ _ (fun m115 hm115 => ?_)
              dsimp only [ucgo, ucwp, ucsC, uqC, uoC, ctC, rfd, KX2_reachSwitch, KX2_reachSwitch_0, KX2_reachSwitch_10, KX2_reachSwitch_15, KX2_reachSwitch_25, KX2_reachSwitch_35, KX2_reachSwitch_48, KX2_reachSwitch_52, KX2_reachSwitch_53, KX2_reachSwitch_58, KX2_reachSwitch_66, KX2_reachSwitch_76, KX2_reachSwitch_80, KX2_reachSwitch_84, KX2_reachSwitch_91, KX2_reachSwitch_95, KX2_reachSwitch_96, lkC, s1C, s2C, dlC, kyC, Nat.beq, Nat.ble, rcd, rno, rsw, Nat.reduceAdd, Nat.reduceBEq, Nat.reduceDiv, List.drop, List.take, List.reverse, List.reverseAux, Int.toNat, Option.toList, List.append, List.cons_append, List.nil_append, zg270, zg275, zg276, zg283]
              have c116 : (Int32.ofInt 0).toInt = 0 := by decide
              refine hB _ _ _ _ _ (fun m117 hm117 => ?_)
              dsimp only [ucgo, ucwp, ucsC, uqC, uoC, ctC, rfd, KX2_reachSwitch, KX2_reachSwitch_0, KX2_reachSwitch_10, KX2_reachSwitch_15, KX2_reachSwitch_25, KX2_reachSwitch_35, KX2_reachSwitch_48, KX2_reachSwitch_52, KX2_reachSwitch_53, KX2_reachSwitch_58, KX2_reachSwitch_66, KX2_reachSwitch_76, KX2_reachSwitch_80, KX2_reachSwitch_84, KX2_reachSwitch_91, KX2_reachSwitch_95, KX2_reachSwitch_96, lkC, s1C, s2C, dlC, kyC, Nat.beq, Nat.ble, rcd, rno, rsw, Nat.reduceAdd, Nat.reduceBEq, Nat.reduceDiv, List.drop, List.take, List.reverse, List.reverseAux, Int.toNat, Option.toList, List.append, List.cons_append, List.nil_append, zg270, zg275, zg276, zg283]
              have io118 : (dd ||| (Int32.ofInt 0)).toInt = bZI (d9 || false) := ior_b (show (dd : Int32).toInt = bZI d9 by first | omega | (rw [show bZI false = 0 from rfl]; omega) | (rw [show bZI true = 1 from rfl]; omega)) (show ((Int32.ofInt 0) : Int32).toInt = bZI false by first | omega | (rw [show bZI false = 0 from rfl]; omega) | (rw [show bZI true = 1 from rfl]; omega))
              refine hB _ _ _ _ _ (fun m119 hm119 => ?_)
              dsimp only [ucgo, ucwp, ucsC, uqC, uoC, ctC, rfd, KX2_reachSwitch, KX2_reachSwitch_0, KX2_reachSwitch_10, KX2_reachSwitch_15, KX2_reachSwitch_25, KX2_reachSwitch_35, KX2_reachSwitch_48, KX2_reachSwitch_52, KX2_reachSwitch_53, KX2_reachSwitch_58, KX2_reachSwitch_66, KX2_reachSwitch_76, KX2_reachSwitch_80, KX2_reachSwitch_84, KX2_reachSwitch_91, KX2_reachSwitch_95, KX2_reachSwitch_96, lkC, s1C, s2C, dlC, kyC, Nat.beq, Nat.ble, rcd, rno, rsw, Nat.reduceAdd, Nat.reduceBEq, Nat.reduceDiv, List.drop, List.take, List.reverse, List.reverseAux, Int.toNat, Option.toList, List.append, List.cons_append, List.nil_append, zg270, zg275, zg276, zg283]
              intro a120 e120 ob120
              obtain rfl : B j52 = a120 := Option.some.inj ((h52.trans (congrArg some hb52)).symm.trans e120)
              have f121 : (fRC s0 (B j52) 275) = opA B (njS z j52) := o73_0.1.2.1
              rw [f121]
              exact hW _ 10 [(0, .inr (.inr (some (E 4)))), (1, .inr (.inr (some p1))), (2, .inl (Int32.ofInt 1)), (3, .inl (dd ||| (Int32.ofInt 0))), (4, .inr (.inr (opA B (njS z j52))))] _ _ _ (List.forall_mem_cons.2 ⟨List.Mem.tail _ (List.Mem.tail _ (List.Mem.tail _ (List.Mem.head _))), List.forall_mem_cons.2 ⟨List.Mem.tail _ (List.Mem.tail _ (List.Mem.tail _ (List.Mem.tail _ (List.Mem.head _)))), List.forall_mem_cons.2 ⟨List.Mem.tail _ (List.Mem.tail _ (List.Mem.head _)), List.forall_mem_cons.2 ⟨List.Mem.tail _ (List.Mem.head _), List.forall_mem_cons.2 ⟨List.Mem.head _, fun _ h => absurd h List.not_mem_nil⟩⟩⟩⟩⟩) (ih _ (by omega) s0 (Int32.ofInt 1) (dd ||| (Int32.ofInt 0)) (njS z j52) true (d9 || false) r9 k9 hF0 hR9 (by show _ = (1 : Int); omega) (by omega) (by have := (hwf j52 hl52).1; omega) (fun q9 => by have := hup j hj; have := hup j52 hl52; omega) (heq.trans (by rw [rc_s1 (by omega), decide_eq_false (show ¬ kjS z j52 = 63 by omega)])))
            · have g114 := (eqI (x := (fIC s0 (B j52) 270)) (y := (Int32.ofInt 63)) h114 : ((fIC s0 (B j52) 270) : Int32).toInt = ((Int32.ofInt 63) : Int32).toInt)
              refine hB _ _ _ _ _ (fun m122 hm122 => ?_)
              dsimp only [ucgo, ucwp, ucsC, uqC, uoC, ctC, rfd, KX2_reachSwitch, KX2_reachSwitch_0, KX2_reachSwitch_10, KX2_reachSwitch_15, KX2_reachSwitch_25, KX2_reachSwitch_35, KX2_reachSwitch_48, KX2_reachSwitch_52, KX2_reachSwitch_53, KX2_reachSwitch_58, KX2_reachSwitch_66, KX2_reachSwitch_76, KX2_reachSwitch_80, KX2_reachSwitch_84, KX2_reachSwitch_91, KX2_reachSwitch_95, KX2_reachSwitch_96, lkC, s1C, s2C, dlC, kyC, Nat.beq, Nat.ble, rcd, rno, rsw, Nat.reduceAdd, Nat.reduceBEq, Nat.reduceDiv, List.drop, List.take, List.reverse, List.reverseAux, Int.toNat, Option.toList, List.append, List.cons_append, List.nil_append, zg270, zg275, zg276, zg283]
              have c123 : (Int32.ofInt 1).toInt = 1 := by decide
              refine hB _ _ _ _ _ (fun m124 hm124 => ?_)
              dsimp only [ucgo, ucwp, ucsC, uqC, uoC, ctC, rfd, KX2_reachSwitch, KX2_reachSwitch_0, KX2_reachSwitch_10, KX2_reachSwitch_15, KX2_reachSwitch_25, KX2_reachSwitch_35, KX2_reachSwitch_48, KX2_reachSwitch_52, KX2_reachSwitch_53, KX2_reachSwitch_58, KX2_reachSwitch_66, KX2_reachSwitch_76, KX2_reachSwitch_80, KX2_reachSwitch_84, KX2_reachSwitch_91, KX2_reachSwitch_95, KX2_reachSwitch_96, lkC, s1C, s2C, dlC, kyC, Nat.beq, Nat.ble, rcd, rno, rsw, Nat.reduceAdd, Nat.reduceBEq, Nat.reduceDiv, List.drop, List.take, List.reverse, List.reverseAux, Int.toNat, Option.toList, List.append, List.cons_append, List.nil_append, zg270, zg275, zg276, zg283]
              have io125 : (dd ||| (Int32.ofInt 1)).toInt = bZI (d9 || true) := ior_b (show (dd : Int32).toInt = bZI d9 by first | omega | (rw [show bZI false = 0 from rfl]; omega) | (rw [show bZI true = 1 from rfl]; omega)) (show ((Int32.ofInt 1) : Int32).toInt = bZI true by first | omega | (rw [show bZI false = 0 from rfl]; omega) | (rw [show bZI true = 1 from rfl]; omega))
              refine hB _ _ _ _ _ (fun m126 hm126 => ?_)
              dsimp only [ucgo, ucwp, ucsC, uqC, uoC, ctC, rfd, KX2_reachSwitch, KX2_reachSwitch_0, KX2_reachSwitch_10, KX2_reachSwitch_15, KX2_reachSwitch_25, KX2_reachSwitch_35, KX2_reachSwitch_48, KX2_reachSwitch_52, KX2_reachSwitch_53, KX2_reachSwitch_58, KX2_reachSwitch_66, KX2_reachSwitch_76, KX2_reachSwitch_80, KX2_reachSwitch_84, KX2_reachSwitch_91, KX2_reachSwitch_95, KX2_reachSwitch_96, lkC, s1C, s2C, dlC, kyC, Nat.beq, Nat.ble, rcd, rno, rsw, Nat.reduceAdd, Nat.reduceBEq, Nat.reduceDiv, List.drop, List.take, List.reverse, List.reverseAux, Int.toNat, Option.toList, List.append, List.cons_append, List.nil_append, zg270, zg275, zg276, zg283]
              intro a127 e127 ob127
              obtain rfl : B j52 = a127 := Option.some.inj ((h52.trans (congrArg some hb52)).symm.trans e127)
              have f128 : (fRC s0 (B j52) 275) = opA B (njS z j52) := o73_0.1.2.1
              rw [f128]
              exact hW _ 10 [(0, .inr (.inr (some (E 4)))), (1, .inr (.inr (some p1))), (2, .inl (Int32.ofInt 1)), (3, .inl (dd ||| (Int32.ofInt 1))), (4, .inr (.inr (opA B (njS z j52))))] _ _ _ (List.forall_mem_cons.2 ⟨List.Mem.tail _ (List.Mem.tail _ (List.Mem.tail _ (List.Mem.head _))), List.forall_mem_cons.2 ⟨List.Mem.tail _ (List.Mem.tail _ (List.Mem.tail _ (List.Mem.tail _ (List.Mem.head _)))), List.forall_mem_cons.2 ⟨List.Mem.tail _ (List.Mem.tail _ (List.Mem.head _)), List.forall_mem_cons.2 ⟨List.Mem.tail _ (List.Mem.head _), List.forall_mem_cons.2 ⟨List.Mem.head _, fun _ h => absurd h List.not_mem_nil⟩⟩⟩⟩⟩) (ih _ (by omega) s0 (Int32.ofInt 1) (dd ||| (Int32.ofInt 1)) (njS z j52) true (d9 || true) r9 k9 hF0 hR9 (by show _ = (1 : Int); omega) (by omega) (by have := (hwf j52 hl52).1; omega) (fun q9 => by have := hup j hj; have := hup j52 hl52; omega) (heq.trans (by rw [rc_s1 (by omega), decide_eq_true (show kjS z j52 = 63 by omega)])))
  change K n_ 0 [(0, .inr (.inr (some (E 4)))), (1, .inr (.inr (some p1)))] [] σ
  refine hB _ _ _ _ _ (fun m129 hm129 => ?_)
  dsimp only [ucgo, ucwp, ucsC, uqC, uoC, ctC, rfd, KX2_reachSwitch, KX2_reachSwitch_0, KX2_reachSwitch_10, KX2_reachSwitch_15, KX2_reachSwitch_25, KX2_reachSwitch_35, KX2_reachSwitch_48, KX2_reachSwitch_52, KX2_reachSwitch_53, KX2_reachSwitch_58, KX2_reachSwitch_66, KX2_reachSwitch_76, KX2_reachSwitch_80, KX2_reachSwitch_84, KX2_reachSwitch_91, KX2_reachSwitch_95, KX2_reachSwitch_96, lkC, s1C, s2C, dlC, kyC, Nat.beq, Nat.ble, rcd, rno, rsw, Nat.reduceAdd, Nat.reduceBEq, Nat.reduceDiv, List.drop, List.take, List.reverse, List.reverseAux, Int.toNat, Option.toList, List.append, List.cons_append, List.nil_append, zg270, zg275, zg276, zg283]
  have c130 : (Int32.ofInt 0).toInt = 0 := by decide
  have c131 : (Int32.ofInt 0).toInt = 0 := by decide
  intro a132 e132 ob132
  cases e132
  have f133 : (fRC σ p1 276) = opA B (bjS z j) := op.1.2.2.1
  rw [f133]
  exact hW _ 10 [(0, .inr (.inr (some (E 4)))), (1, .inr (.inr (some p1))), (2, .inl (Int32.ofInt 0)), (3, .inl (Int32.ofInt 0)), (4, .inr (.inr (opA B (bjS z j))))] _ _ _ (List.forall_mem_cons.2 ⟨List.Mem.tail _ (List.Mem.tail _ (List.Mem.tail _ (List.Mem.head _))), List.forall_mem_cons.2 ⟨List.Mem.tail _ (List.Mem.tail _ (List.Mem.tail _ (List.Mem.tail _ (List.Mem.head _)))), List.forall_mem_cons.2 ⟨List.Mem.tail _ (List.Mem.tail _ (List.Mem.head _)), List.forall_mem_cons.2 ⟨List.Mem.tail _ (List.Mem.head _), List.forall_mem_cons.2 ⟨List.Mem.head _, fun _ h => absurd h List.not_mem_nil⟩⟩⟩⟩⟩) (L10 _ σ (Int32.ofInt 0) (Int32.ofInt 0) (bjS z j) false false r f FrE.rf hR (by show _ = (0 : Int); omega) (by show _ = (0 : Int); omega) (by have := (hwf j hj).1; omega) (fun q9 => by have := hup j hj; omega) rfl)
set_option maxHeartbeats 4000000 in
theorem pz_reachTry (y : (Int → Int) × (Nat → Nat) × (Nat → Nat) × (Nat → Nat) × (Nat → Nat) × ZS × TbT × MfT × Nat × Nat × RR × Nat) : PbC KX2_reachTry [(21, TrP, EqC 21)] [(21, Uz_reachRow)] (fun As σ => Pz_reachTry y As σ ∧ cnC σ ≤ 1000000 ∧ ∃ w τ, uqC quL 26 As σ w τ) (Qz_reachTry y) := by
  obtain ⟨N, E, A, B, V, z, T, ms, nm, j, r, f⟩ := y
  rintro As σ ⟨⟨p1, rfl, hSs, hPf, hTg, hwf, hj, hp, hR, hfu⟩, hcn, _, _, hQ⟩ K hB hW n_
  obtain ⟨hwf, hup, hBi⟩ := hwf
  have op : SlC A B σ z j p1 ∧ p1 < cnC σ := by rw [hp]; exact hSs.1 j hj
  have L66 : ∀ (n : Nat) (s0 : CsC) (fe : Int32) (en : Int32) (A9 : Bool) (C9 : Bool) (R9 : RR), (FrE [217, 218, 282, 283, 284] σ s0) → (RhC E B s0 z R9) → (fe.toInt = bZI A9) → (en.toInt = bZI C9) → (tyR (rcF N z T f) z j r = (C9 && A9, R9)) →  K n 66 [(0, .inr (.inr (some (E 4)))), (1, .inr (.inr (some p1))), (2, .inl fe), (3, .inl en)] [] s0 := by
    intro n s0 fe en A9 C9 R9 hF0 hR9 hfe hen heq
    have hSs_0 := SsC.fr hSs hF0 rfl
    have hPf_0 := PfC.fr hPf hF0 rfl
    have hTg_0 := TgC.fr hTg hF0 rfl
    have op_0 : SlC A B s0 z j p1 ∧ p1 < cnC s0 := by rw [hp]; exact hSs_0.1 j hj
    refine hB _ _ _ _ _ (fun m51 hm51 => ?_)
    dsimp only [ucgo, ucwp, ucsC, uqC, uoC, ctC, rfd, KX2_reachTry, KX2_reachTry_0, KX2_reachTry_7, KX2_reachTry_18, KX2_reachTry_22, KX2_reachTry_23, KX2_reachTry_31, KX2_reachTry_42, KX2_reachTry_46, KX2_reachTry_47, KX2_reachTry_55, KX2_reachTry_66, KX2_reachTry_70, KX2_reachTry_74, KX2_reachTry_78, KX2_reachTry_79, lkC, s1C, s2C, dlC, kyC, Nat.beq, Nat.ble, rcd, rno, rsw, Nat.reduceAdd, Nat.reduceBEq, Nat.reduceDiv, List.drop, List.take, List.reverse, List.reverseAux, Int.toNat, Option.toList, List.append, List.cons_append, List.nil_append, zg276, zg277, zg278]
    refine ⟨fun h52 => ?_, fun h52 => ?_⟩
    · have g52 := (eqI (x := en) (y := 0) h52 : (en : Int32).toInt = (0 : Int32).toInt)
      have z0_ : (0 : Int32).toInt = 0 := rfl
      have hb52 : C9 = false := bZI_f (by omega)
      refine hB _ _ _ _ _ (fun m53 hm53 => ?_)
      dsimp only [ucgo, ucwp, ucsC, uqC, uoC, ctC, rfd, KX2_reachTry, KX2_reachTry_0, KX2_reachTry_7, KX2_reachTry_18, KX2_reachTry_22, KX2_reachTry_23, KX2_reachTry_31, KX2_reachTry_42, KX2_reachTry_46, KX2_reachTry_47, KX2_reachTry_55, KX2_reachTry_66, KX2_reachTry_70, KX2_reachTry_74, KX2_reachTry_78, KX2_reachTry_79, lkC, s1C, s2C, dlC, kyC, Nat.beq, Nat.ble, rcd, rno, rsw, Nat.reduceAdd, Nat.reduceBEq, Nat.reduceDiv, List.drop, List.take, List.reverse, List.reverseAux, Int.toNat, Option.toList, List.append, List.cons_append, List.nil_append, zg276, zg277, zg278]
      have c54 : (Int32.ofInt 0).toInt = 0 := by decide
      refine hB _ _ _ _ _ (fun m55 hm55 => ?_)
      dsimp only [ucgo, ucwp, ucsC, uqC, uoC, ctC, rfd, KX2_reachTry, KX2_reachTry_0, KX2_reachTry_7, KX2_reachTry_18, KX2_reachTry_22, KX2_reachTry_23, KX2_reachTry_31, KX2_reachTry_42, KX2_reachTry_46, KX2_reachTry_47, KX2_reachTry_55, KX2_reachTry_66, KX2_reachTry_70, KX2_reachTry_74, KX2_reachTry_78, KX2_reachTry_79, lkC, s1C, s2C, dlC, kyC, Nat.beq, Nat.ble, rcd, rno, rsw, Nat.reduceAdd, Nat.reduceBEq, Nat.reduceDiv, List.drop, List.take, List.reverse, List.reverseAux, Int.toNat, Option.toList, List.append, List.cons_append, List.nil_append, zg276, zg277, zg278]
      try dsimp only [Qz_reachTry]
      have hfin : tyR (rcF N z T f) z j r = (C9 && A9, R9) := by
        exact heq
      rw [hfin]
      refine ⟨_, rfl, ?_, hR9⟩
      show _ = bZI _
      simp only [hb52, Bool.true_or, Bool.or_true, Bool.false_or, Bool.or_false, Bool.and_true, Bool.true_and, Bool.and_false, Bool.false_and, Bool.not_true, Bool.not_false]
      first
        | omega
        | (show _ = (1 : Int); omega)
        | (show _ = (0 : Int); omega)
    · have g52 := (neI (x := en) (y := 0) h52 : ¬ (en : Int32).toInt = (0 : Int32).toInt)
      have z0_ : (0 : Int32).toInt = 0 := rfl
      have hb52 : C9 = true := bZI_t (by omega)
      refine hB _ _ _ _ _ (fun m56 hm56 => ?_)
      dsimp only [ucgo, ucwp, ucsC, uqC, uoC, ctC, rfd, KX2_reachTry, KX2_reachTry_0, KX2_reachTry_7, KX2_reachTry_18, KX2_reachTry_22, KX2_reachTry_23, KX2_reachTry_31, KX2_reachTry_42, KX2_reachTry_46, KX2_reachTry_47, KX2_reachTry_55, KX2_reachTry_66, KX2_reachTry_70, KX2_reachTry_74, KX2_reachTry_78, KX2_reachTry_79, lkC, s1C, s2C, dlC, kyC, Nat.beq, Nat.ble, rcd, rno, rsw, Nat.reduceAdd, Nat.reduceBEq, Nat.reduceDiv, List.drop, List.take, List.reverse, List.reverseAux, Int.toNat, Option.toList, List.append, List.cons_append, List.nil_append, zg276, zg277, zg278]
      refine ⟨fun h57 => ?_, fun h57 => ?_⟩
      · have g57 := (eqI (x := fe) (y := 0) h57 : (fe : Int32).toInt = (0 : Int32).toInt)
        have z0_ : (0 : Int32).toInt = 0 := rfl
        have hb57 : A9 = false := bZI_f (by omega)
        refine hB _ _ _ _ _ (fun m58 hm58 => ?_)
        dsimp only [ucgo, ucwp, ucsC, uqC, uoC, ctC, rfd, KX2_reachTry, KX2_reachTry_0, KX2_reachTry_7, KX2_reachTry_18, KX2_reachTry_22, KX2_reachTry_23, KX2_reachTry_31, KX2_reachTry_42, KX2_reachTry_46, KX2_reachTry_47, KX2_reachTry_55, KX2_reachTry_66, KX2_reachTry_70, KX2_reachTry_74, KX2_reachTry_78, KX2_reachTry_79, lkC, s1C, s2C, dlC, kyC, Nat.beq, Nat.ble, rcd, rno, rsw, Nat.reduceAdd, Nat.reduceBEq, Nat.reduceDiv, List.drop, List.take, List.reverse, List.reverseAux, Int.toNat, Option.toList, List.append, List.cons_append, List.nil_append, zg276, zg277, zg278]
        have c59 : (Int32.ofInt 0).toInt = 0 := by decide
        refine hB _ _ _ _ _ (fun m60 hm60 => ?_)
        dsimp only [ucgo, ucwp, ucsC, uqC, uoC, ctC, rfd, KX2_reachTry, KX2_reachTry_0, KX2_reachTry_7, KX2_reachTry_18, KX2_reachTry_22, KX2_reachTry_23, KX2_reachTry_31, KX2_reachTry_42, KX2_reachTry_46, KX2_reachTry_47, KX2_reachTry_55, KX2_reachTry_66, KX2_reachTry_70, KX2_reachTry_74, KX2_reachTry_78, KX2_reachTry_79, lkC, s1C, s2C, dlC, kyC, Nat.beq, Nat.ble, rcd, rno, rsw, Nat.reduceAdd, Nat.reduceBEq, Nat.reduceDiv, List.drop, List.take, List.reverse, List.reverseAux, Int.toNat, Option.toList, List.append, List.cons_append, List.nil_append, zg276, zg277, zg278]
        try dsimp only [Qz_reachTry]
        have hfin : tyR (rcF N z T f) z j r = (C9 && A9, R9) := by
          exact heq
        rw [hfin]
        refine ⟨_, rfl, ?_, hR9⟩
        show _ = bZI _
        simp only [hb52, hb57, Bool.true_or, Bool.or_true, Bool.false_or, Bool.or_false, Bool.and_true, Bool.true_and, Bool.and_false, Bool.false_and, Bool.not_true, Bool.not_false]
        first
          | omega
          | (show _ = (1 : Int); omega)
          | (show _ = (0 : Int); omega)
      · have g57 := (neI (x := fe) (y := 0) h57 : ¬ (fe : Int32).toInt = (0 : Int32).toInt)
        have z0_ : (0 : Int32).toInt = 0 := rfl
        have hb57 : A9 = true := bZI_t (by omega)
        refine hB _ _ _ _ _ (fun m61 hm61 => ?_)
        dsimp only [ucgo, ucwp, ucsC, uqC, uoC, ctC, rfd, KX2_reachTry, KX2_reachTry_0, KX2_reachTry_7, KX2_reachTry_18, KX2_reachTry_22, KX2_reachTry_23, KX2_reachTry_31, KX2_reachTry_42, KX2_reachTry_46, KX2_reachTry_47, KX2_reachTry_55, KX2_reachTry_66, KX2_reachTry_70, KX2_reachTry_74, KX2_reachTry_78, KX2_reachTry_79, lkC, s1C, s2C, dlC, kyC, Nat.beq, Nat.ble, rcd, rno, rsw, Nat.reduceAdd, Nat.reduceBEq, Nat.reduceDiv, List.drop, List.take, List.reverse, List.reverseAux, Int.toNat, Option.toList, List.append, List.cons_append, List.nil_append, zg276, zg277, zg278]
        have c62 : (Int32.ofInt 1).toInt = 1 := by decide
        refine hB _ _ _ _ _ (fun m63 hm63 => ?_)
        dsimp only [ucgo, ucwp, ucsC, uqC, uoC, ctC, rfd, KX2_reachTry, KX2_reachTry_0, KX2_reachTry_7, KX2_reachTry_18, KX2_reachTry_22, KX2_reachTry_23, KX2_reachTry_31, KX2_reachTry_42, KX2_reachTry_46, KX2_reachTry_47, KX2_reachTry_55, KX2_reachTry_66, KX2_reachTry_70, KX2_reachTry_74, KX2_reachTry_78, KX2_reachTry_79, lkC, s1C, s2C, dlC, kyC, Nat.beq, Nat.ble, rcd, rno, rsw, Nat.reduceAdd, Nat.reduceBEq, Nat.reduceDiv, List.drop, List.take, List.reverse, List.reverseAux, Int.toNat, Option.toList, List.append, List.cons_append, List.nil_append, zg276, zg277, zg278]
        try dsimp only [Qz_reachTry]
        have hfin : tyR (rcF N z T f) z j r = (C9 && A9, R9) := by
          exact heq
        rw [hfin]
        refine ⟨_, rfl, ?_, hR9⟩
        show _ = bZI _
        simp only [hb52, hb57, Bool.true_or, Bool.or_true, Bool.false_or, Bool.or_false, Bool.and_true, Bool.true_and, Bool.and_false, Bool.false_and, Bool.not_true, Bool.not_false]
        first
          | omega
          | (show _ = (1 : Int); omega)
          | (show _ = (0 : Int); omega)
  have L47 : ∀ (n : Nat) (s0 : CsC) (fe : Int32) (v : Int32) (A9 : Bool) (B9 : Bool) (R9 : RR), (FrE [217, 218, 282, 283, 284] σ s0) → (RhC E B s0 z R9) → (fe.toInt = bZI A9) → (v.toInt = bZI B9) → (tyR (rcF N z T f) z j r = (fun (c : Bool × RR) => (c.1 && A9, c.2)) (if ojS z j < 0 then (B9, R9) else (fun (q : Bool × RR) => (B9 || q.1, q.2)) (rwR (rcF N z T f) z (ojS z j).toNat R9))) →  K n 47 [(0, .inr (.inr (some (E 4)))), (1, .inr (.inr (some p1))), (2, .inl fe)] [.inl v] s0 := by
    intro n s0 fe v A9 B9 R9 hF0 hR9 hfe hv heq
    have hSs_0 := SsC.fr hSs hF0 rfl
    have hPf_0 := PfC.fr hPf hF0 rfl
    have hTg_0 := TgC.fr hTg hF0 rfl
    have op_0 : SlC A B s0 z j p1 ∧ p1 < cnC s0 := by rw [hp]; exact hSs_0.1 j hj
    refine hB _ _ _ _ _ (fun m64 hm64 => ?_)
    dsimp only [ucgo, ucwp, ucsC, uqC, uoC, ctC, rfd, KX2_reachTry, KX2_reachTry_0, KX2_reachTry_7, KX2_reachTry_18, KX2_reachTry_22, KX2_reachTry_23, KX2_reachTry_31, KX2_reachTry_42, KX2_reachTry_46, KX2_reachTry_47, KX2_reachTry_55, KX2_reachTry_66, KX2_reachTry_70, KX2_reachTry_74, KX2_reachTry_78, KX2_reachTry_79, lkC, s1C, s2C, dlC, kyC, Nat.beq, Nat.ble, rcd, rno, rsw, Nat.reduceAdd, Nat.reduceBEq, Nat.reduceDiv, List.drop, List.take, List.reverse, List.reverseAux, Int.toNat, Option.toList, List.append, List.cons_append, List.nil_append, zg276, zg277, zg278]
    intro a65 e65 ob65
    cases e65
    have f66 : (fRC s0 p1 277) = opA B (ojS z j) := op_0.1.2.2.2.1
    refine ⟨fun h67 => ?_, fun b67 h67 => ?_⟩
    · have hx67 := opA_nn (f66.symm.trans h67)
      exact hW _ 66 [(0, .inr (.inr (some (E 4)))), (1, .inr (.inr (some p1))), (2, .inl fe), (3, .inl v)] _ _ _ (List.forall_mem_cons.2 ⟨List.Mem.tail _ (List.Mem.head _), List.forall_mem_cons.2 ⟨List.Mem.tail _ (List.Mem.tail _ (List.Mem.head _)), List.forall_mem_cons.2 ⟨List.Mem.tail _ (List.Mem.tail _ (List.Mem.tail _ (List.Mem.head _))), List.forall_mem_cons.2 ⟨List.Mem.head _, fun _ h => absurd h List.not_mem_nil⟩⟩⟩⟩) (L66 _ s0 fe v A9 B9 R9 hF0 hR9 hfe (by omega) (heq.trans (by rw [if_pos (show ojS z j < 0 by omega)])))
    · obtain ⟨j67, hj67, hb67⟩ := opA_j (f66.symm.trans h67)
      have hwx67 := (hwf j hj).1
      have hl67 : j67 < snM z := by omega
      have o68_0 := hSs_0.1 j67 hl67
      refine hB _ _ _ _ _ (fun m69 hm69 => ?_)
      dsimp only [ucgo, ucwp, ucsC, uqC, uoC, ctC, rfd, KX2_reachTry, KX2_reachTry_0, KX2_reachTry_7, KX2_reachTry_18, KX2_reachTry_22, KX2_reachTry_23, KX2_reachTry_31, KX2_reachTry_42, KX2_reachTry_46, KX2_reachTry_47, KX2_reachTry_55, KX2_reachTry_66, KX2_reachTry_70, KX2_reachTry_74, KX2_reachTry_78, KX2_reachTry_79, lkC, s1C, s2C, dlC, kyC, Nat.beq, Nat.ble, rcd, rno, rsw, Nat.reduceAdd, Nat.reduceBEq, Nat.reduceDiv, List.drop, List.take, List.reverse, List.reverseAux, Int.toNat, Option.toList, List.append, List.cons_append, List.nil_append, zg276, zg277, zg278]
      intro a70 e70 ob70
      cases e70
      have f71 : (fRC s0 p1 277) = some (B j67) := by rw [show (fRC s0 p1 277) = opA B (ojS z j) from op_0.1.2.2.2.1, hj67, opA_k]
      intro w72 τ72 o72 q72
      rw [f71] at q72 o72
      obtain ⟨v72, rfl, hv72, hR72⟩ := q72 (N, E, A, B, V, z, T, ms, nm, j67, R9, f) ⟨_, rfl, hSs_0, hPf_0, hTg_0, ⟨hwf, hup, hBi⟩, hl67, rfl, hR9, (by have := hup j hj; have := hup j67 hl67; omega)⟩
      obtain ⟨Q72, hQ72⟩ : ∃ q, rwR (rcF N z T f) z j67 R9 = q := ⟨_, rfl⟩
      rw [hQ72] at hv72 hR72
      have hF72 : FrE [217, 218, 282, 283, 284] σ τ72 := hF0.tr (o72.2.mo rfl)
      have hSs_72 := SsC.fr hSs hF72 rfl
      have hPf_72 := PfC.fr hPf hF72 rfl
      have hTg_72 := TgC.fr hTg hF72 rfl
      have op_72 : SlC A B τ72 z j p1 ∧ p1 < cnC τ72 := by rw [hp]; exact hSs_72.1 j hj
      have o68_72 := hSs_72.1 j67 hl67
      try dsimp only [Option.toList, List.cons_append, List.nil_append, s1C, s2C, dlC, kyC, Nat.beq, lkC, rcd, rno, rsw]
      have io73 : (v ||| v72).toInt = bZI (B9 || Q72.1) := ior_b (show (v : Int32).toInt = bZI B9 by first | omega | (rw [show bZI false = 0 from rfl]; omega) | (rw [show bZI true = 1 from rfl]; omega)) (show (v72 : Int32).toInt = bZI Q72.1 by first | omega | (rw [show bZI false = 0 from rfl]; omega) | (rw [show bZI true = 1 from rfl]; omega))
      exact hW _ 66 [(0, .inr (.inr (some (E 4)))), (1, .inr (.inr (some p1))), (2, .inl fe), (3, .inl (v ||| v72))] _ _ _ (List.forall_mem_cons.2 ⟨List.Mem.tail _ (List.Mem.head _), List.forall_mem_cons.2 ⟨List.Mem.tail _ (List.Mem.tail _ (List.Mem.head _)), List.forall_mem_cons.2 ⟨List.Mem.tail _ (List.Mem.tail _ (List.Mem.tail _ (List.Mem.head _))), List.forall_mem_cons.2 ⟨List.Mem.head _, fun _ h => absurd h List.not_mem_nil⟩⟩⟩⟩) (L66 _ τ72 fe (v ||| v72) A9 (B9 || Q72.1) Q72.2 hF72 hR72 hfe (by omega) (heq.trans (by rw [if_neg (show ¬ ojS z j < 0 by omega), show (ojS z j).toNat = j67 by omega, hQ72])))
  have L23 : ∀ (n : Nat) (s0 : CsC) (v : Int32) (A9 : Bool) (R9 : RR), (FrE [217, 218, 282, 283, 284] σ s0) → (RhC E B s0 z R9) → (v.toInt = bZI A9) → (tyR (rcF N z T f) z j r = (fun (b : Bool × RR) => (fun (c : Bool × RR) => (c.1 && A9, c.2)) (if ojS z j < 0 then b else (fun (q : Bool × RR) => (b.1 || q.1, q.2)) (rwR (rcF N z T f) z (ojS z j).toNat b.2))) (if bjS z j < 0 then (false, R9) else rwR (rcF N z T f) z (bjS z j).toNat R9)) →  K n 23 [(0, .inr (.inr (some (E 4)))), (1, .inr (.inr (some p1)))] [.inl v] s0 := by
    intro n s0 v A9 R9 hF0 hR9 hfe heq
    have hSs_0 := SsC.fr hSs hF0 rfl
    have hPf_0 := PfC.fr hPf hF0 rfl
    have hTg_0 := TgC.fr hTg hF0 rfl
    have op_0 : SlC A B s0 z j p1 ∧ p1 < cnC s0 := by rw [hp]; exact hSs_0.1 j hj
    refine hB _ _ _ _ _ (fun m74 hm74 => ?_)
    dsimp only [ucgo, ucwp, ucsC, uqC, uoC, ctC, rfd, KX2_reachTry, KX2_reachTry_0, KX2_reachTry_7, KX2_reachTry_18, KX2_reachTry_22, KX2_reachTry_23, KX2_reachTry_31, KX2_reachTry_42, KX2_reachTry_46, KX2_reachTry_47, KX2_reachTry_55, KX2_reachTry_66, KX2_reachTry_70, KX2_reachTry_74, KX2_reachTry_78, KX2_reachTry_79, lkC, s1C, s2C, dlC, kyC, Nat.beq, Nat.ble, rcd, rno, rsw, Nat.reduceAdd, Nat.reduceBEq, Nat.reduceDiv, List.drop, List.take, List.reverse, List.reverseAux, Int.toNat, Option.toList, List.append, List.cons_append, List.nil_append, zg276, zg277, zg278]
    intro a75 e75 ob75
    cases e75
    have f76 : (fRC s0 p1 276) = opA B (bjS z j) := op_0.1.2.2.1
    refine ⟨fun h77 => ?_, fun b77 h77 => ?_⟩
    · have hx77 := opA_nn (f76.symm.trans h77)
      refine hB _ _ _ _ _ (fun m78 hm78 => ?_)
      dsimp only [ucgo, ucwp, ucsC, uqC, uoC, ctC, rfd, KX2_reachTry, KX2_reachTry_0, KX2_reachTry_7, KX2_reachTry_18, KX2_reachTry_22, KX2_reachTry_23, KX2_reachTry_31, KX2_reachTry_42, KX2_reachTry_46, KX2_reachTry_47, KX2_reachTry_55, KX2_reachTry_66, KX2_reachTry_70, KX2_reachTry_74, KX2_reachTry_78, KX2_reachTry_79, lkC, s1C, s2C, dlC, kyC, Nat.beq, Nat.ble, rcd, rno, rsw, Nat.reduceAdd, Nat.reduceBEq, Nat.reduceDiv, List.drop, List.take, List.reverse, List.reverseAux, Int.toNat, Option.toList, List.append, List.cons_append, List.nil_append, zg276, zg277, zg278]
      have c79 : (Int32.ofInt 0).toInt = 0 := by decide
      exact hW _ 47 [(0, .inr (.inr (some (E 4)))), (1, .inr (.inr (some p1))), (2, .inl v)] _ _ _ (List.forall_mem_cons.2 ⟨List.Mem.tail _ (List.Mem.head _), List.forall_mem_cons.2 ⟨List.Mem.tail _ (List.Mem.tail _ (List.Mem.head _)), List.forall_mem_cons.2 ⟨List.Mem.head _, fun _ h => absurd h List.not_mem_nil⟩⟩⟩) (L47 _ s0 v (Int32.ofInt 0) A9 false R9 hF0 hR9 hfe (by show _ = (0 : Int); omega) (heq.trans (by rw [if_pos (show bjS z j < 0 by omega)])))
    · obtain ⟨j77, hj77, hb77⟩ := opA_j (f76.symm.trans h77)
      have hwx77 := (hwf j hj).1
      have hl77 : j77 < snM z := by omega
      have o80_0 := hSs_0.1 j77 hl77
      refine hB _ _ _ _ _ (fun m81 hm81 => ?_)
      dsimp only [ucgo, ucwp, ucsC, uqC, uoC, ctC, rfd, KX2_reachTry, KX2_reachTry_0, KX2_reachTry_7, KX2_reachTry_18, KX2_reachTry_22, KX2_reachTry_23, KX2_reachTry_31, KX2_reachTry_42, KX2_reachTry_46, KX2_reachTry_47, KX2_reachTry_55, KX2_reachTry_66, KX2_reachTry_70, KX2_reachTry_74, KX2_reachTry_78, KX2_reachTry_79, lkC, s1C, s2C, dlC, kyC, Nat.beq, Nat.ble, rcd, rno, rsw, Nat.reduceAdd, Nat.reduceBEq, Nat.reduceDiv, List.drop, List.take, List.reverse, List.reverseAux, Int.toNat, Option.toList, List.append, List.cons_append, List.nil_append, zg276, zg277, zg278]
      intro a82 e82 ob82
      cases e82
      have f83 : (fRC s0 p1 276) = some (B j77) := by rw [show (fRC s0 p1 276) = opA B (bjS z j) from op_0.1.2.2.1, hj77, opA_k]
      intro w84 τ84 o84 q84
      rw [f83] at q84 o84
      obtain ⟨v84, rfl, hv84, hR84⟩ := q84 (N, E, A, B, V, z, T, ms, nm, j77, R9, f) ⟨_, rfl, hSs_0, hPf_0, hTg_0, ⟨hwf, hup, hBi⟩, hl77, rfl, hR9, (by have := hup j hj; have := hup j77 hl77; omega)⟩
      obtain ⟨Q84, hQ84⟩ : ∃ q, rwR (rcF N z T f) z j77 R9 = q := ⟨_, rfl⟩
      rw [hQ84] at hv84 hR84
      have hF84 : FrE [217, 218, 282, 283, 284] σ τ84 := hF0.tr (o84.2.mo rfl)
      have hSs_84 := SsC.fr hSs hF84 rfl
      have hPf_84 := PfC.fr hPf hF84 rfl
      have hTg_84 := TgC.fr hTg hF84 rfl
      have op_84 : SlC A B τ84 z j p1 ∧ p1 < cnC τ84 := by rw [hp]; exact hSs_84.1 j hj
      have o80_84 := hSs_84.1 j77 hl77
      try dsimp only [Option.toList, List.cons_append, List.nil_append, s1C, s2C, dlC, kyC, Nat.beq, lkC, rcd, rno, rsw]
      refine ⟨fun h85 => ?_, fun h85 => ?_⟩
      · have g85 := (eqI (x := v84) (y := 0) h85 : (v84 : Int32).toInt = (0 : Int32).toInt)
        have z0_ : (0 : Int32).toInt = 0 := rfl
        have hb85 : Q84.1 = false := bZI_f (by omega)
        refine hB _ _ _ _ _ (fun m86 hm86 => ?_)
        dsimp only [ucgo, ucwp, ucsC, uqC, uoC, ctC, rfd, KX2_reachTry, KX2_reachTry_0, KX2_reachTry_7, KX2_reachTry_18, KX2_reachTry_22, KX2_reachTry_23, KX2_reachTry_31, KX2_reachTry_42, KX2_reachTry_46, KX2_reachTry_47, KX2_reachTry_55, KX2_reachTry_66, KX2_reachTry_70, KX2_reachTry_74, KX2_reachTry_78, KX2_reachTry_79, lkC, s1C, s2C, dlC, kyC, Nat.beq, Nat.ble, rcd, rno, rsw, Nat.reduceAdd, Nat.reduceBEq, Nat.reduceDiv, List.drop, List.take, List.reverse, List.reverseAux, Int.toNat, Option.toList, List.append, List.cons_append, List.nil_append, zg276, zg277, zg278]
        have c87 : (Int32.ofInt 0).toInt = 0 := by decide
        exact hW _ 47 [(0, .inr (.inr (some (E 4)))), (1, .inr (.inr (some p1))), (2, .inl v)] _ _ _ (List.forall_mem_cons.2 ⟨List.Mem.tail _ (List.Mem.head _), List.forall_mem_cons.2 ⟨List.Mem.tail _ (List.Mem.tail _ (List.Mem.head _)), List.forall_mem_cons.2 ⟨List.Mem.head _, fun _ h => absurd h List.not_mem_nil⟩⟩⟩) (L47 _ τ84 v (Int32.ofInt 0) A9 Q84.1 Q84.2 hF84 hR84 hfe (by rw [hb85]; show _ = (0 : Int); omega) (heq.trans (by rw [if_neg (show ¬ bjS z j < 0 by omega), show (bjS z j).toNat = j77 by omega, hQ84])))
      · have g85 := (neI (x := v84) (y := 0) h85 : ¬ (v84 : Int32).toInt = (0 : Int32).toInt)
        have z0_ : (0 : Int32).toInt = 0 := rfl
        have hb85 : Q84.1 = true := bZI_t (by omega)
        refine hB _ _ _ _ _ (fun m88 hm88 => ?_)
        dsimp only [ucgo, ucwp, ucsC, uqC, uoC, ctC, rfd, KX2_reachTry, KX2_reachTry_0, KX2_reachTry_7, KX2_reachTry_18, KX2_reachTry_22, KX2_reachTry_23, KX2_reachTry_31, KX2_reachTry_42, KX2_reachTry_46, KX2_reachTry_47, KX2_reachTry_55, KX2_reachTry_66, KX2_reachTry_70, KX2_reachTry_74, KX2_reachTry_78, KX2_reachTry_79, lkC, s1C, s2C, dlC, kyC, Nat.beq, Nat.ble, rcd, rno, rsw, Nat.reduceAdd, Nat.reduceBEq, Nat.reduceDiv, List.drop, List.take, List.reverse, List.reverseAux, Int.toNat, Option.toList, List.append, List.cons_append, List.nil_append, zg276, zg277, zg278]
        have c89 : (Int32.ofInt 1).toInt = 1 := by decide
        exact hW _ 47 [(0, .inr (.inr (some (E 4)))), (1, .inr (.inr (some p1))), (2, .inl v)] _ _ _ (List.forall_mem_cons.2 ⟨List.Mem.tail _ (List.Mem.head _), List.forall_mem_cons.2 ⟨List.Mem.tail _ (List.Mem.tail _ (List.Mem.head _)), List.forall_mem_cons.2 ⟨List.Mem.head _, fun _ h => absurd h List.not_mem_nil⟩⟩⟩) (L47 _ τ84 v (Int32.ofInt 1) A9 Q84.1 Q84.2 hF84 hR84 hfe (by rw [hb85]; show _ = (1 : Int); omega) (heq.trans (by rw [if_neg (show ¬ bjS z j < 0 by omega), show (bjS z j).toNat = j77 by omega, hQ84])))
  change K n_ 0 [(0, .inr (.inr (some (E 4)))), (1, .inr (.inr (some p1)))] [] σ
  refine hB _ _ _ _ _ (fun m90 hm90 => ?_)
  dsimp only [ucgo, ucwp, ucsC, uqC, uoC, ctC, rfd, KX2_reachTry, KX2_reachTry_0, KX2_reachTry_7, KX2_reachTry_18, KX2_reachTry_22, KX2_reachTry_23, KX2_reachTry_31, KX2_reachTry_42, KX2_reachTry_46, KX2_reachTry_47, KX2_reachTry_55, KX2_reachTry_66, KX2_reachTry_70, KX2_reachTry_74, KX2_reachTry_78, KX2_reachTry_79, lkC, s1C, s2C, dlC, kyC, Nat.beq, Nat.ble, rcd, rno, rsw, Nat.reduceAdd, Nat.reduceBEq, Nat.reduceDiv, List.drop, List.take, List.reverse, List.reverseAux, Int.toNat, Option.toList, List.append, List.cons_append, List.nil_append, zg276, zg277, zg278]
  intro a91 e91 ob91
  cases e91
  have f92 : (fRC σ p1 278) = opA B (gjS z j) := op.1.2.2.2.2.1
  refine ⟨fun h93 => ?_, fun b93 h93 => ?_⟩
  · have hx93 := opA_nn (f92.symm.trans h93)
    refine hB _ _ _ _ _ (fun m94 hm94 => ?_)
    dsimp only [ucgo, ucwp, ucsC, uqC, uoC, ctC, rfd, KX2_reachTry, KX2_reachTry_0, KX2_reachTry_7, KX2_reachTry_18, KX2_reachTry_22, KX2_reachTry_23, KX2_reachTry_31, KX2_reachTry_42, KX2_reachTry_46, KX2_reachTry_47, KX2_reachTry_55, KX2_reachTry_66, KX2_reachTry_70, KX2_reachTry_74, KX2_reachTry_78, KX2_reachTry_79, lkC, s1C, s2C, dlC, kyC, Nat.beq, Nat.ble, rcd, rno, rsw, Nat.reduceAdd, Nat.reduceBEq, Nat.reduceDiv, List.drop, List.take, List.reverse, List.reverseAux, Int.toNat, Option.toList, List.append, List.cons_append, List.nil_append, zg276, zg277, zg278]
    have c95 : (Int32.ofInt 1).toInt = 1 := by decide
    exact hW _ 23 [(0, .inr (.inr (some (E 4)))), (1, .inr (.inr (some p1)))] _ _ _ (List.forall_mem_cons.2 ⟨List.Mem.head _, List.forall_mem_cons.2 ⟨List.Mem.tail _ (List.Mem.head _), fun _ h => absurd h List.not_mem_nil⟩⟩) (L23 _ σ (Int32.ofInt 1) true r FrE.rf hR (by show _ = (1 : Int); omega) (by unfold tyR; rw [if_pos (show gjS z j < 0 by omega)]))
  · obtain ⟨j93, hj93, hb93⟩ := opA_j (f92.symm.trans h93)
    have hwx93 := (hwf j hj).1
    have hl93 : j93 < snM z := by omega
    have o96 := hSs.1 j93 hl93
    refine hB _ _ _ _ _ (fun m97 hm97 => ?_)
    dsimp only [ucgo, ucwp, ucsC, uqC, uoC, ctC, rfd, KX2_reachTry, KX2_reachTry_0, KX2_reachTry_7, KX2_reachTry_18, KX2_reachTry_22, KX2_reachTry_23, KX2_reachTry_31, KX2_reachTry_42, KX2_reachTry_46, KX2_reachTry_47, KX2_reachTry_55, KX2_reachTry_66, KX2_reachTry_70, KX2_reachTry_74, KX2_reachTry_78, KX2_reachTry_79, lkC, s1C, s2C, dlC, kyC, Nat.beq, Nat.ble, rcd, rno, rsw, Nat.reduceAdd, Nat.reduceBEq, Nat.reduceDiv, List.drop, List.take, List.reverse, List.reverseAux, Int.toNat, Option.toList, List.append, List.cons_append, List.nil_append, zg276, zg277, zg278]
    intro a98 e98 ob98
    cases e98
    have f99 : (fRC σ p1 278) = some (B j93) := by rw [show (fRC σ p1 278) = opA B (gjS z j) from op.1.2.2.2.2.1, hj93, opA_k]
    intro w100 τ100 o100 q100
    rw [f99] at q100 o100
    obtain ⟨v100, rfl, hv100, hR100⟩ := q100 (N, E, A, B, V, z, T, ms, nm, j93, r, f) ⟨_, rfl, hSs, hPf, hTg, ⟨hwf, hup, hBi⟩, hl93, rfl, hR, (by have := hup j hj; have := hup j93 hl93; omega)⟩
    obtain ⟨Q100, hQ100⟩ : ∃ q, rwR (rcF N z T f) z j93 r = q := ⟨_, rfl⟩
    rw [hQ100] at hv100 hR100
    have hF100 : FrE [217, 218, 282, 283, 284] σ τ100 := FrE.mo o100.2 rfl
    have hSs_100 := SsC.fr hSs hF100 rfl
    have hPf_100 := PfC.fr hPf hF100 rfl
    have hTg_100 := TgC.fr hTg hF100 rfl
    have op_100 : SlC A B τ100 z j p1 ∧ p1 < cnC τ100 := by rw [hp]; exact hSs_100.1 j hj
    have o96_100 := hSs_100.1 j93 hl93
    try dsimp only [Option.toList, List.cons_append, List.nil_append, s1C, s2C, dlC, kyC, Nat.beq, lkC, rcd, rno, rsw]
    refine ⟨fun h101 => ?_, fun h101 => ?_⟩
    · have g101 := (eqI (x := v100) (y := 0) h101 : (v100 : Int32).toInt = (0 : Int32).toInt)
      have z0_ : (0 : Int32).toInt = 0 := rfl
      have hb101 : Q100.1 = false := bZI_f (by omega)
      refine hB _ _ _ _ _ (fun m102 hm102 => ?_)
      dsimp only [ucgo, ucwp, ucsC, uqC, uoC, ctC, rfd, KX2_reachTry, KX2_reachTry_0, KX2_reachTry_7, KX2_reachTry_18, KX2_reachTry_22, KX2_reachTry_23, KX2_reachTry_31, KX2_reachTry_42, KX2_reachTry_46, KX2_reachTry_47, KX2_reachTry_55, KX2_reachTry_66, KX2_reachTry_70, KX2_reachTry_74, KX2_reachTry_78, KX2_reachTry_79, lkC, s1C, s2C, dlC, kyC, Nat.beq, Nat.ble, rcd, rno, rsw, Nat.reduceAdd, Nat.reduceBEq, Nat.reduceDiv, List.drop, List.take, List.reverse, List.reverseAux, Int.toNat, Option.toList, List.append, List.cons_append, List.nil_append, zg276, zg277, zg278]
      have c103 : (Int32.ofInt 0).toInt = 0 := by decide
      exact hW _ 23 [(0, .inr (.inr (some (E 4)))), (1, .inr (.inr (some p1)))] _ _ _ (List.forall_mem_cons.2 ⟨List.Mem.head _, List.forall_mem_cons.2 ⟨List.Mem.tail _ (List.Mem.head _), fun _ h => absurd h List.not_mem_nil⟩⟩) (L23 _ τ100 (Int32.ofInt 0) Q100.1 Q100.2 hF100 hR100 (by rw [hb101]; show _ = (0 : Int); omega) (by unfold tyR; rw [if_neg (show ¬ gjS z j < 0 by omega), show (gjS z j).toNat = j93 by omega, hQ100]))
    · have g101 := (neI (x := v100) (y := 0) h101 : ¬ (v100 : Int32).toInt = (0 : Int32).toInt)
      have z0_ : (0 : Int32).toInt = 0 := rfl
      have hb101 : Q100.1 = true := bZI_t (by omega)
      refine hB _ _ _ _ _ (fun m104 hm104 => ?_)
      dsimp only [ucgo, ucwp, ucsC, uqC, uoC, ctC, rfd, KX2_reachTry, KX2_reachTry_0, KX2_reachTry_7, KX2_reachTry_18, KX2_reachTry_22, KX2_reachTry_23, KX2_reachTry_31, KX2_reachTry_42, KX2_reachTry_46, KX2_reachTry_47, KX2_reachTry_55, KX2_reachTry_66, KX2_reachTry_70, KX2_reachTry_74, KX2_reachTry_78, KX2_reachTry_79, lkC, s1C, s2C, dlC, kyC, Nat.beq, Nat.ble, rcd, rno, rsw, Nat.reduceAdd, Nat.reduceBEq, Nat.reduceDiv, List.drop, List.take, List.reverse, List.reverseAux, Int.toNat, Option.toList, List.append, List.cons_append, List.nil_append, zg276, zg277, zg278]
      have c105 : (Int32.ofInt 1).toInt = 1 := by decide
      exact hW _ 23 [(0, .inr (.inr (some (E 4)))), (1, .inr (.inr (some p1)))] _ _ _ (List.forall_mem_cons.2 ⟨List.Mem.head _, List.forall_mem_cons.2 ⟨List.Mem.tail _ (List.Mem.head _), fun _ h => absurd h List.not_mem_nil⟩⟩) (L23 _ τ100 (Int32.ofInt 1) Q100.1 Q100.2 hF100 hR100 (by rw [hb101]; show _ = (1 : Int); omega) (by unfold tyR; rw [if_neg (show ¬ gjS z j < 0 by omega), show (gjS z j).toNat = j93 by omega, hQ100]))
set_option maxHeartbeats 4000000 in
theorem pz_reachInside (y : (Int → Int) × (Nat → Nat) × (Nat → Nat) × (Nat → Nat) × (Nat → Nat) × ZS × TbT × MfT × Nat × Nat × RR × Nat) : PbC KX2_reachInside [(21, TrP, EqC 21), (24, TrP, EqC 24), (22, TrP, EqC 22), (183, TrP, EqC 183), (25, TrP, EqC 25), (27, TrP, EqC 27), (26, TrP, EqC 26)] [(21, Uz_reachRow), (24, Uz_reachBody), (22, Uz_reach), (183, Uz_isAlways), (25, Uz_reachSwitch), (27, Uz_markTarget), (26, Uz_reachTry)] (fun As σ => Pz_reachInside y As σ ∧ cnC σ ≤ 1000000 ∧ ∃ w τ, uqC quL 23 As σ w τ) (Qz_reachInside y) := by
  obtain ⟨N, E, A, B, V, z, T, ms, nm, j, r, f⟩ := y
  rintro As σ ⟨⟨p1, rfl, hSs, hPf, hTg, hwf, hj, hp, hR, hfu⟩, hcn, _, _, hQ⟩ K hB hW n_
  obtain ⟨hwf, hup, hBi⟩ := hwf
  have op : SlC A B σ z j p1 ∧ p1 < cnC σ := by rw [hp]; exact hSs.1 j hj
  change K n_ 0 [(0, .inr (.inr (some (E 4)))), (1, .inr (.inr (some p1)))] [] σ
  refine hB _ _ _ _ _ (fun m51 hm51 => ?_)
  dsimp only [ucgo, ucwp, ucsC, uqC, uoC, ctC, rfd, KX2_reachInside, KX2_reachInside_0, KX2_reachInside_96, KX2_reachInside_102, KX2_reachInside_111, KX2_reachInside_118, KX2_reachInside_122, KX2_reachInside_123, KX2_reachInside_124, KX2_reachInside_138, KX2_reachInside_150, KX2_reachInside_154, KX2_reachInside_158, KX2_reachInside_159, KX2_reachInside_160, KX2_reachInside_170, KX2_reachInside_174, KX2_reachInside_175, KX2_reachInside_187, KX2_reachInside_194, KX2_reachInside_198, KX2_reachInside_199, KX2_reachInside_200, KX2_reachInside_209, KX2_reachInside_216, KX2_reachInside_220, KX2_reachInside_221, KX2_reachInside_226, KX2_reachInside_234, KX2_reachInside_241, KX2_reachInside_245, KX2_reachInside_246, KX2_reachInside_247, KX2_reachInside_253, KX2_reachInside_259, KX2_reachInside_265, KX2_reachInside_274, KX2_reachInside_283, KX2_reachInside_287, KX2_reachInside_288, lkC, s1C, s2C, dlC, kyC, Nat.beq, Nat.ble, rcd, rno, rsw, Nat.reduceAdd, Nat.reduceBEq, Nat.reduceDiv, List.drop, List.take, List.reverse, List.reverseAux, Int.toNat, Option.toList, List.append, List.cons_append, List.nil_append, zg270, zg277, zg283, zg284]
  intro a52 e52 ob52
  cases e52
  have f53 : (fIC σ p1 270).toInt = kjS z j := op.1.1.1
  refine ⟨fun h54 => ?_, fun h54 => ?_⟩
  · have g54 : ((fIC σ p1 270) : Int32).toInt = 2 := h54
    refine hB _ _ _ _ _ (fun m55 hm55 => ?_)
    dsimp only [ucgo, ucwp, ucsC, uqC, uoC, ctC, rfd, KX2_reachInside, KX2_reachInside_0, KX2_reachInside_96, KX2_reachInside_102, KX2_reachInside_111, KX2_reachInside_118, KX2_reachInside_122, KX2_reachInside_123, KX2_reachInside_124, KX2_reachInside_138, KX2_reachInside_150, KX2_reachInside_154, KX2_reachInside_158, KX2_reachInside_159, KX2_reachInside_160, KX2_reachInside_170, KX2_reachInside_174, KX2_reachInside_175, KX2_reachInside_187, KX2_reachInside_194, KX2_reachInside_198, KX2_reachInside_199, KX2_reachInside_200, KX2_reachInside_209, KX2_reachInside_216, KX2_reachInside_220, KX2_reachInside_221, KX2_reachInside_226, KX2_reachInside_234, KX2_reachInside_241, KX2_reachInside_245, KX2_reachInside_246, KX2_reachInside_247, KX2_reachInside_253, KX2_reachInside_259, KX2_reachInside_265, KX2_reachInside_274, KX2_reachInside_283, KX2_reachInside_287, KX2_reachInside_288, lkC, s1C, s2C, dlC, kyC, Nat.beq, Nat.ble, rcd, rno, rsw, Nat.reduceAdd, Nat.reduceBEq, Nat.reduceDiv, List.drop, List.take, List.reverse, List.reverseAux, Int.toNat, Option.toList, List.append, List.cons_append, List.nil_append, zg270, zg277, zg283, zg284]
    intro w56 τ56 o56 q56
    obtain ⟨v56, rfl, hv56, hR56⟩ := q56 (N, E, A, B, V, z, T, ms, nm, j, r, f) ⟨_, rfl, hSs, hPf, hTg, ⟨hwf, hup, hBi⟩, hj, hp, hR, (by have := hup j hj; omega)⟩
    obtain ⟨Q56, hQ56⟩ : ∃ q, rwR (rcF N z T f) z j r = q := ⟨_, rfl⟩
    rw [hQ56] at hv56 hR56
    have hF56 : FrE [217, 218, 282, 283, 284] σ τ56 := FrE.mo o56.2 rfl
    have hSs_56 := SsC.fr hSs hF56 rfl
    have hPf_56 := PfC.fr hPf hF56 rfl
    have hTg_56 := TgC.fr hTg hF56 rfl
    have op_56 : SlC A B τ56 z j p1 ∧ p1 < cnC τ56 := by rw [hp]; exact hSs_56.1 j hj
    try dsimp only [Option.toList, List.cons_append, List.nil_append, s1C, s2C, dlC, kyC, Nat.beq, lkC, rcd, rno, rsw]
    try dsimp only [Qz_reachInside]
    have hfin : inR (rcF N z T f) N z T j r = (Q56.1, Q56.2) := by
      rw [in_b (by omega), hQ56]
    rw [hfin]
    refine ⟨_, rfl, ?_, hR56⟩
    show _ = bZI _
    first
      | omega
      | (show _ = (1 : Int); omega)
      | (show _ = (0 : Int); omega)
  have g54 : ¬ ((fIC σ p1 270) : Int32).toInt = 2 := h54
  refine ⟨fun h57 => ?_, fun h57 => ?_⟩
  · have g57 : ((fIC σ p1 270) : Int32).toInt = 6 := h57
    refine hB _ _ _ _ _ (fun m58 hm58 => ?_)
    dsimp only [ucgo, ucwp, ucsC, uqC, uoC, ctC, rfd, KX2_reachInside, KX2_reachInside_0, KX2_reachInside_96, KX2_reachInside_102, KX2_reachInside_111, KX2_reachInside_118, KX2_reachInside_122, KX2_reachInside_123, KX2_reachInside_124, KX2_reachInside_138, KX2_reachInside_150, KX2_reachInside_154, KX2_reachInside_158, KX2_reachInside_159, KX2_reachInside_160, KX2_reachInside_170, KX2_reachInside_174, KX2_reachInside_175, KX2_reachInside_187, KX2_reachInside_194, KX2_reachInside_198, KX2_reachInside_199, KX2_reachInside_200, KX2_reachInside_209, KX2_reachInside_216, KX2_reachInside_220, KX2_reachInside_221, KX2_reachInside_226, KX2_reachInside_234, KX2_reachInside_241, KX2_reachInside_245, KX2_reachInside_246, KX2_reachInside_247, KX2_reachInside_253, KX2_reachInside_259, KX2_reachInside_265, KX2_reachInside_274, KX2_reachInside_283, KX2_reachInside_287, KX2_reachInside_288, lkC, s1C, s2C, dlC, kyC, Nat.beq, Nat.ble, rcd, rno, rsw, Nat.reduceAdd, Nat.reduceBEq, Nat.reduceDiv, List.drop, List.take, List.reverse, List.reverseAux, Int.toNat, Option.toList, List.append, List.cons_append, List.nil_append, zg270, zg277, zg283, zg284]
    have c59 : (Int32.ofInt 1).toInt = 1 := by decide
    intro w60 τ60 o60 q60
    obtain ⟨v60, rfl, hv60, hR60⟩ := q60 (N, E, A, B, V, z, T, ms, nm, j, r, true, f) ⟨_, _, rfl, hSs, hPf, hTg, ⟨hwf, hup, hBi⟩, hj, hp, hR, (by first | omega | (show _ = bZI true; rw [show bZI true = 1 from rfl]; omega) | (show _ = bZI false; rw [show bZI false = 0 from rfl]; omega)), (by have := hup j hj; omega)⟩
    obtain ⟨Q60, hQ60⟩ : ∃ q, bdR (rcF N z T f) z j true r = q := ⟨_, rfl⟩
    rw [hQ60] at hv60 hR60
    have hF60 : FrE [217, 218, 282, 283, 284] σ τ60 := FrE.mo o60.2 rfl
    have hSs_60 := SsC.fr hSs hF60 rfl
    have hPf_60 := PfC.fr hPf hF60 rfl
    have hTg_60 := TgC.fr hTg hF60 rfl
    have op_60 : SlC A B τ60 z j p1 ∧ p1 < cnC τ60 := by rw [hp]; exact hSs_60.1 j hj
    try dsimp only [Option.toList, List.cons_append, List.nil_append, s1C, s2C, dlC, kyC, Nat.beq, lkC, rcd, rno, rsw]
    refine ⟨fun h61 => ?_, fun h61 => ?_⟩
    · have g61 := (neI (x := v60) (y := 0) h61 : ¬ (v60 : Int32).toInt = (0 : Int32).toInt)
      have z0_ : (0 : Int32).toInt = 0 := rfl
      have hb61 : Q60.1 = true := bZI_t (by omega)
      refine hB _ _ _ _ _ (fun m62 hm62 => ?_)
      dsimp only [ucgo, ucwp, ucsC, uqC, uoC, ctC, rfd, KX2_reachInside, KX2_reachInside_0, KX2_reachInside_96, KX2_reachInside_102, KX2_reachInside_111, KX2_reachInside_118, KX2_reachInside_122, KX2_reachInside_123, KX2_reachInside_124, KX2_reachInside_138, KX2_reachInside_150, KX2_reachInside_154, KX2_reachInside_158, KX2_reachInside_159, KX2_reachInside_160, KX2_reachInside_170, KX2_reachInside_174, KX2_reachInside_175, KX2_reachInside_187, KX2_reachInside_194, KX2_reachInside_198, KX2_reachInside_199, KX2_reachInside_200, KX2_reachInside_209, KX2_reachInside_216, KX2_reachInside_220, KX2_reachInside_221, KX2_reachInside_226, KX2_reachInside_234, KX2_reachInside_241, KX2_reachInside_245, KX2_reachInside_246, KX2_reachInside_247, KX2_reachInside_253, KX2_reachInside_259, KX2_reachInside_265, KX2_reachInside_274, KX2_reachInside_283, KX2_reachInside_287, KX2_reachInside_288, lkC, s1C, s2C, dlC, kyC, Nat.beq, Nat.ble, rcd, rno, rsw, Nat.reduceAdd, Nat.reduceBEq, Nat.reduceDiv, List.drop, List.take, List.reverse, List.reverseAux, Int.toNat, Option.toList, List.append, List.cons_append, List.nil_append, zg270, zg277, zg283, zg284]
      have c63 : (Int32.ofInt 1).toInt = 1 := by decide
      refine hB _ _ _ _ _ (fun m64 hm64 => ?_)
      dsimp only [ucgo, ucwp, ucsC, uqC, uoC, ctC, rfd, KX2_reachInside, KX2_reachInside_0, KX2_reachInside_96, KX2_reachInside_102, KX2_reachInside_111, KX2_reachInside_118, KX2_reachInside_122, KX2_reachInside_123, KX2_reachInside_124, KX2_reachInside_138, KX2_reachInside_150, KX2_reachInside_154, KX2_reachInside_158, KX2_reachInside_159, KX2_reachInside_160, KX2_reachInside_170, KX2_reachInside_174, KX2_reachInside_175, KX2_reachInside_187, KX2_reachInside_194, KX2_reachInside_198, KX2_reachInside_199, KX2_reachInside_200, KX2_reachInside_209, KX2_reachInside_216, KX2_reachInside_220, KX2_reachInside_221, KX2_reachInside_226, KX2_reachInside_234, KX2_reachInside_241, KX2_reachInside_245, KX2_reachInside_246, KX2_reachInside_247, KX2_reachInside_253, KX2_reachInside_259, KX2_reachInside_265, KX2_reachInside_274, KX2_reachInside_283, KX2_reachInside_287, KX2_reachInside_288, lkC, s1C, s2C, dlC, kyC, Nat.beq, Nat.ble, rcd, rno, rsw, Nat.reduceAdd, Nat.reduceBEq, Nat.reduceDiv, List.drop, List.take, List.reverse, List.reverseAux, Int.toNat, Option.toList, List.append, List.cons_append, List.nil_append, zg270, zg277, zg283, zg284]
      try dsimp only [Qz_reachInside]
      have hfin : inR (rcF N z T f) N z T j r = (Q60.1 || Q60.2.2.1 j, Q60.2) := by
        rw [in_l (by omega)]
        unfold laR
        rw [hQ60]
      rw [hfin]
      refine ⟨_, rfl, ?_, hR60⟩
      show _ = bZI _
      simp only [hb61, Bool.true_or, Bool.or_true, Bool.false_or, Bool.or_false, Bool.and_true, Bool.true_and, Bool.and_false, Bool.false_and, Bool.not_true, Bool.not_false]
      first
        | omega
        | (show _ = (1 : Int); omega)
        | (show _ = (0 : Int); omega)
    · have g61 := (eqI (x := v60) (y := 0) h61 : (v60 : Int32).toInt = (0 : Int32).toInt)
      have z0_ : (0 : Int32).toInt = 0 := rfl
      have hb61 : Q60.1 = false := bZI_f (by omega)
      refine hB _ _ _ _ _ (fun m65 hm65 => ?_)
      dsimp only [ucgo, ucwp, ucsC, uqC, uoC, ctC, rfd, KX2_reachInside, KX2_reachInside_0, KX2_reachInside_96, KX2_reachInside_102, KX2_reachInside_111, KX2_reachInside_118, KX2_reachInside_122, KX2_reachInside_123, KX2_reachInside_124, KX2_reachInside_138, KX2_reachInside_150, KX2_reachInside_154, KX2_reachInside_158, KX2_reachInside_159, KX2_reachInside_160, KX2_reachInside_170, KX2_reachInside_174, KX2_reachInside_175, KX2_reachInside_187, KX2_reachInside_194, KX2_reachInside_198, KX2_reachInside_199, KX2_reachInside_200, KX2_reachInside_209, KX2_reachInside_216, KX2_reachInside_220, KX2_reachInside_221, KX2_reachInside_226, KX2_reachInside_234, KX2_reachInside_241, KX2_reachInside_245, KX2_reachInside_246, KX2_reachInside_247, KX2_reachInside_253, KX2_reachInside_259, KX2_reachInside_265, KX2_reachInside_274, KX2_reachInside_283, KX2_reachInside_287, KX2_reachInside_288, lkC, s1C, s2C, dlC, kyC, Nat.beq, Nat.ble, rcd, rno, rsw, Nat.reduceAdd, Nat.reduceBEq, Nat.reduceDiv, List.drop, List.take, List.reverse, List.reverseAux, Int.toNat, Option.toList, List.append, List.cons_append, List.nil_append, zg270, zg277, zg283, zg284]
      intro a66 e66 ob66
      cases e66
      have f67 : (fIC τ60 p1 283).toInt = bZI (Q60.2.2.1 j) := by rw [hp]; exact (hR60.1 j hj).2.1
      refine ⟨fun h68 => ?_, fun h68 => ?_⟩
      · have g68 := (eqI (x := (fIC τ60 p1 283)) (y := 0) h68 : ((fIC τ60 p1 283) : Int32).toInt = (0 : Int32).toInt)
        have z0_ : (0 : Int32).toInt = 0 := rfl
        have hb68 : (Q60.2.2.1 j) = false := bZI_f (by omega)
        refine hB _ _ _ _ _ (fun m69 hm69 => ?_)
        dsimp only [ucgo, ucwp, ucsC, uqC, uoC, ctC, rfd, KX2_reachInside, KX2_reachInside_0, KX2_reachInside_96, KX2_reachInside_102, KX2_reachInside_111, KX2_reachInside_118, KX2_reachInside_122, KX2_reachInside_123, KX2_reachInside_124, KX2_reachInside_138, KX2_reachInside_150, KX2_reachInside_154, KX2_reachInside_158, KX2_reachInside_159, KX2_reachInside_160, KX2_reachInside_170, KX2_reachInside_174, KX2_reachInside_175, KX2_reachInside_187, KX2_reachInside_194, KX2_reachInside_198, KX2_reachInside_199, KX2_reachInside_200, KX2_reachInside_209, KX2_reachInside_216, KX2_reachInside_220, KX2_reachInside_221, KX2_reachInside_226, KX2_reachInside_234, KX2_reachInside_241, KX2_reachInside_245, KX2_reachInside_246, KX2_reachInside_247, KX2_reachInside_253, KX2_reachInside_259, KX2_reachInside_265, KX2_reachInside_274, KX2_reachInside_283, KX2_reachInside_287, KX2_reachInside_288, lkC, s1C, s2C, dlC, kyC, Nat.beq, Nat.ble, rcd, rno, rsw, Nat.reduceAdd, Nat.reduceBEq, Nat.reduceDiv, List.drop, List.take, List.reverse, List.reverseAux, Int.toNat, Option.toList, List.append, List.cons_append, List.nil_append, zg270, zg277, zg283, zg284]
        have c70 : (Int32.ofInt 0).toInt = 0 := by decide
        refine hB _ _ _ _ _ (fun m71 hm71 => ?_)
        dsimp only [ucgo, ucwp, ucsC, uqC, uoC, ctC, rfd, KX2_reachInside, KX2_reachInside_0, KX2_reachInside_96, KX2_reachInside_102, KX2_reachInside_111, KX2_reachInside_118, KX2_reachInside_122, KX2_reachInside_123, KX2_reachInside_124, KX2_reachInside_138, KX2_reachInside_150, KX2_reachInside_154, KX2_reachInside_158, KX2_reachInside_159, KX2_reachInside_160, KX2_reachInside_170, KX2_reachInside_174, KX2_reachInside_175, KX2_reachInside_187, KX2_reachInside_194, KX2_reachInside_198, KX2_reachInside_199, KX2_reachInside_200, KX2_reachInside_209, KX2_reachInside_216, KX2_reachInside_220, KX2_reachInside_221, KX2_reachInside_226, KX2_reachInside_234, KX2_reachInside_241, KX2_reachInside_245, KX2_reachInside_246, KX2_reachInside_247, KX2_reachInside_253, KX2_reachInside_259, KX2_reachInside_265, KX2_reachInside_274, KX2_reachInside_283, KX2_reachInside_287, KX2_reachInside_288, lkC, s1C, s2C, dlC, kyC, Nat.beq, Nat.ble, rcd, rno, rsw, Nat.reduceAdd, Nat.reduceBEq, Nat.reduceDiv, List.drop, List.take, List.reverse, List.reverseAux, Int.toNat, Option.toList, List.append, List.cons_append, List.nil_append, zg270, zg277, zg283, zg284]
        try dsimp only [Qz_reachInside]
        have hfin : inR (rcF N z T f) N z T j r = (Q60.1 || Q60.2.2.1 j, Q60.2) := by
          rw [in_l (by omega)]
          unfold laR
          rw [hQ60]
        rw [hfin]
        refine ⟨_, rfl, ?_, hR60⟩
        show _ = bZI _
        simp only [hb61, hb68, Bool.true_or, Bool.or_true, Bool.false_or, Bool.or_false, Bool.and_true, Bool.true_and, Bool.and_false, Bool.false_and, Bool.not_true, Bool.not_false]
        first
          | omega
          | (show _ = (1 : Int); omega)
          | (show _ = (0 : Int); omega)
      · have g68 := (neI (x := (fIC τ60 p1 283)) (y := 0) h68 : ¬ ((fIC τ60 p1 283) : Int32).toInt = (0 : Int32).toInt)
        have z0_ : (0 : Int32).toInt = 0 := rfl
        have hb68 : (Q60.2.2.1 j) = true := bZI_t (by omega)
        refine hB _ _ _ _ _ (fun m72 hm72 => ?_)
        dsimp only [ucgo, ucwp, ucsC, uqC, uoC, ctC, rfd, KX2_reachInside, KX2_reachInside_0, KX2_reachInside_96, KX2_reachInside_102, KX2_reachInside_111, KX2_reachInside_118, KX2_reachInside_122, KX2_reachInside_123, KX2_reachInside_124, KX2_reachInside_138, KX2_reachInside_150, KX2_reachInside_154, KX2_reachInside_158, KX2_reachInside_159, KX2_reachInside_160, KX2_reachInside_170, KX2_reachInside_174, KX2_reachInside_175, KX2_reachInside_187, KX2_reachInside_194, KX2_reachInside_198, KX2_reachInside_199, KX2_reachInside_200, KX2_reachInside_209, KX2_reachInside_216, KX2_reachInside_220, KX2_reachInside_221, KX2_reachInside_226, KX2_reachInside_234, KX2_reachInside_241, KX2_reachInside_245, KX2_reachInside_246, KX2_reachInside_247, KX2_reachInside_253, KX2_reachInside_259, KX2_reachInside_265, KX2_reachInside_274, KX2_reachInside_283, KX2_reachInside_287, KX2_reachInside_288, lkC, s1C, s2C, dlC, kyC, Nat.beq, Nat.ble, rcd, rno, rsw, Nat.reduceAdd, Nat.reduceBEq, Nat.reduceDiv, List.drop, List.take, List.reverse, List.reverseAux, Int.toNat, Option.toList, List.append, List.cons_append, List.nil_append, zg270, zg277, zg283, zg284]
        have c73 : (Int32.ofInt 1).toInt = 1 := by decide
        refine hB _ _ _ _ _ (fun m74 hm74 => ?_)
        dsimp only [ucgo, ucwp, ucsC, uqC, uoC, ctC, rfd, KX2_reachInside, KX2_reachInside_0, KX2_reachInside_96, KX2_reachInside_102, KX2_reachInside_111, KX2_reachInside_118, KX2_reachInside_122, KX2_reachInside_123, KX2_reachInside_124, KX2_reachInside_138, KX2_reachInside_150, KX2_reachInside_154, KX2_reachInside_158, KX2_reachInside_159, KX2_reachInside_160, KX2_reachInside_170, KX2_reachInside_174, KX2_reachInside_175, KX2_reachInside_187, KX2_reachInside_194, KX2_reachInside_198, KX2_reachInside_199, KX2_reachInside_200, KX2_reachInside_209, KX2_reachInside_216, KX2_reachInside_220, KX2_reachInside_221, KX2_reachInside_226, KX2_reachInside_234, KX2_reachInside_241, KX2_reachInside_245, KX2_reachInside_246, KX2_reachInside_247, KX2_reachInside_253, KX2_reachInside_259, KX2_reachInside_265, KX2_reachInside_274, KX2_reachInside_283, KX2_reachInside_287, KX2_reachInside_288, lkC, s1C, s2C, dlC, kyC, Nat.beq, Nat.ble, rcd, rno, rsw, Nat.reduceAdd, Nat.reduceBEq, Nat.reduceDiv, List.drop, List.take, List.reverse, List.reverseAux, Int.toNat, Option.toList, List.append, List.cons_append, List.nil_append, zg270, zg277, zg283, zg284]
        try dsimp only [Qz_reachInside]
        have hfin : inR (rcF N z T f) N z T j r = (Q60.1 || Q60.2.2.1 j, Q60.2) := by
          rw [in_l (by omega)]
          unfold laR
          rw [hQ60]
        rw [hfin]
        refine ⟨_, rfl, ?_, hR60⟩
        show _ = bZI _
        simp only [hb61, hb68, Bool.true_or, Bool.or_true, Bool.false_or, Bool.or_false, Bool.and_true, Bool.true_and, Bool.and_false, Bool.false_and, Bool.not_true, Bool.not_false]
        first
          | omega
          | (show _ = (1 : Int); omega)
          | (show _ = (0 : Int); omega)
  have g57 : ¬ ((fIC σ p1 270) : Int32).toInt = 6 := h57
  refine ⟨fun h75 => ?_, fun h75 => ?_⟩
  · have g75 : ((fIC σ p1 270) : Int32).toInt = 56 := h75
    refine hB _ _ _ _ _ (fun m76 hm76 => ?_)
    dsimp only [ucgo, ucwp, ucsC, uqC, uoC, ctC, rfd, KX2_reachInside, KX2_reachInside_0, KX2_reachInside_96, KX2_reachInside_102, KX2_reachInside_111, KX2_reachInside_118, KX2_reachInside_122, KX2_reachInside_123, KX2_reachInside_124, KX2_reachInside_138, KX2_reachInside_150, KX2_reachInside_154, KX2_reachInside_158, KX2_reachInside_159, KX2_reachInside_160, KX2_reachInside_170, KX2_reachInside_174, KX2_reachInside_175, KX2_reachInside_187, KX2_reachInside_194, KX2_reachInside_198, KX2_reachInside_199, KX2_reachInside_200, KX2_reachInside_209, KX2_reachInside_216, KX2_reachInside_220, KX2_reachInside_221, KX2_reachInside_226, KX2_reachInside_234, KX2_reachInside_241, KX2_reachInside_245, KX2_reachInside_246, KX2_reachInside_247, KX2_reachInside_253, KX2_reachInside_259, KX2_reachInside_265, KX2_reachInside_274, KX2_reachInside_283, KX2_reachInside_287, KX2_reachInside_288, lkC, s1C, s2C, dlC, kyC, Nat.beq, Nat.ble, rcd, rno, rsw, Nat.reduceAdd, Nat.reduceBEq, Nat.reduceDiv, List.drop, List.take, List.reverse, List.reverseAux, Int.toNat, Option.toList, List.append, List.cons_append, List.nil_append, zg270, zg277, zg283, zg284]
    have c77 : (Int32.ofInt 1).toInt = 1 := by decide
    intro w78 τ78 o78 q78
    obtain ⟨v78, rfl, hv78, hR78⟩ := q78 (N, E, A, B, V, z, T, ms, nm, j, r, true, f) ⟨_, _, rfl, hSs, hPf, hTg, ⟨hwf, hup, hBi⟩, hj, hp, hR, (by first | omega | (show _ = bZI true; rw [show bZI true = 1 from rfl]; omega) | (show _ = bZI false; rw [show bZI false = 0 from rfl]; omega)), (by have := hup j hj; omega)⟩
    obtain ⟨Q78, hQ78⟩ : ∃ q, bdR (rcF N z T f) z j true r = q := ⟨_, rfl⟩
    rw [hQ78] at hv78 hR78
    have hF78 : FrE [217, 218, 282, 283, 284] σ τ78 := FrE.mo o78.2 rfl
    have hSs_78 := SsC.fr hSs hF78 rfl
    have hPf_78 := PfC.fr hPf hF78 rfl
    have hTg_78 := TgC.fr hTg hF78 rfl
    have op_78 : SlC A B τ78 z j p1 ∧ p1 < cnC τ78 := by rw [hp]; exact hSs_78.1 j hj
    try dsimp only [Option.toList, List.cons_append, List.nil_append, s1C, s2C, dlC, kyC, Nat.beq, lkC, rcd, rno, rsw]
    intro a79 e79 ob79
    cases e79
    have f80 : (fRC τ78 p1 277) = opA B (ojS z j) := op_78.1.2.2.2.1
    refine ⟨fun h81 => ?_, fun b81 h81 => ?_⟩
    · have hx81 := opA_nn (f80.symm.trans h81)
      refine hB _ _ _ _ _ (fun m82 hm82 => ?_)
      dsimp only [ucgo, ucwp, ucsC, uqC, uoC, ctC, rfd, KX2_reachInside, KX2_reachInside_0, KX2_reachInside_96, KX2_reachInside_102, KX2_reachInside_111, KX2_reachInside_118, KX2_reachInside_122, KX2_reachInside_123, KX2_reachInside_124, KX2_reachInside_138, KX2_reachInside_150, KX2_reachInside_154, KX2_reachInside_158, KX2_reachInside_159, KX2_reachInside_160, KX2_reachInside_170, KX2_reachInside_174, KX2_reachInside_175, KX2_reachInside_187, KX2_reachInside_194, KX2_reachInside_198, KX2_reachInside_199, KX2_reachInside_200, KX2_reachInside_209, KX2_reachInside_216, KX2_reachInside_220, KX2_reachInside_221, KX2_reachInside_226, KX2_reachInside_234, KX2_reachInside_241, KX2_reachInside_245, KX2_reachInside_246, KX2_reachInside_247, KX2_reachInside_253, KX2_reachInside_259, KX2_reachInside_265, KX2_reachInside_274, KX2_reachInside_283, KX2_reachInside_287, KX2_reachInside_288, lkC, s1C, s2C, dlC, kyC, Nat.beq, Nat.ble, rcd, rno, rsw, Nat.reduceAdd, Nat.reduceBEq, Nat.reduceDiv, List.drop, List.take, List.reverse, List.reverseAux, Int.toNat, Option.toList, List.append, List.cons_append, List.nil_append, zg270, zg277, zg283, zg284]
      have c83 : (Int32.ofInt 1).toInt = 1 := by decide
      refine hB _ _ _ _ _ (fun m84 hm84 => ?_)
      dsimp only [ucgo, ucwp, ucsC, uqC, uoC, ctC, rfd, KX2_reachInside, KX2_reachInside_0, KX2_reachInside_96, KX2_reachInside_102, KX2_reachInside_111, KX2_reachInside_118, KX2_reachInside_122, KX2_reachInside_123, KX2_reachInside_124, KX2_reachInside_138, KX2_reachInside_150, KX2_reachInside_154, KX2_reachInside_158, KX2_reachInside_159, KX2_reachInside_160, KX2_reachInside_170, KX2_reachInside_174, KX2_reachInside_175, KX2_reachInside_187, KX2_reachInside_194, KX2_reachInside_198, KX2_reachInside_199, KX2_reachInside_200, KX2_reachInside_209, KX2_reachInside_216, KX2_reachInside_220, KX2_reachInside_221, KX2_reachInside_226, KX2_reachInside_234, KX2_reachInside_241, KX2_reachInside_245, KX2_reachInside_246, KX2_reachInside_247, KX2_reachInside_253, KX2_reachInside_259, KX2_reachInside_265, KX2_reachInside_274, KX2_reachInside_283, KX2_reachInside_287, KX2_reachInside_288, lkC, s1C, s2C, dlC, kyC, Nat.beq, Nat.ble, rcd, rno, rsw, Nat.reduceAdd, Nat.reduceBEq, Nat.reduceDiv, List.drop, List.take, List.reverse, List.reverseAux, Int.toNat, Option.toList, List.append, List.cons_append, List.nil_append, zg270, zg277, zg283, zg284]
      try dsimp only [Qz_reachInside]
      have hfin : inR (rcF N z T f) N z T j r = (true, Q78.2) := by
        rw [in_i (by omega)]
        unfold ifR
        rw [hQ78]
        dsimp only
        rw [if_pos (by omega)]
      rw [hfin]
      refine ⟨_, rfl, ?_, hR78⟩
      show _ = bZI _
      first
        | omega
        | (show _ = (1 : Int); omega)
        | (show _ = (0 : Int); omega)
    · obtain ⟨j81, hj81, hb81⟩ := opA_j (f80.symm.trans h81)
      have hwx81 := (hwf j hj).1
      have hl81 : j81 < snM z := by omega
      have o85_78 := hSs_78.1 j81 hl81
      refine hB _ _ _ _ _ (fun m86 hm86 => ?_)
      dsimp only [ucgo, ucwp, ucsC, uqC, uoC, ctC, rfd, KX2_reachInside, KX2_reachInside_0, KX2_reachInside_96, KX2_reachInside_102, KX2_reachInside_111, KX2_reachInside_118, KX2_reachInside_122, KX2_reachInside_123, KX2_reachInside_124, KX2_reachInside_138, KX2_reachInside_150, KX2_reachInside_154, KX2_reachInside_158, KX2_reachInside_159, KX2_reachInside_160, KX2_reachInside_170, KX2_reachInside_174, KX2_reachInside_175, KX2_reachInside_187, KX2_reachInside_194, KX2_reachInside_198, KX2_reachInside_199, KX2_reachInside_200, KX2_reachInside_209, KX2_reachInside_216, KX2_reachInside_220, KX2_reachInside_221, KX2_reachInside_226, KX2_reachInside_234, KX2_reachInside_241, KX2_reachInside_245, KX2_reachInside_246, KX2_reachInside_247, KX2_reachInside_253, KX2_reachInside_259, KX2_reachInside_265, KX2_reachInside_274, KX2_reachInside_283, KX2_reachInside_287, KX2_reachInside_288, lkC, s1C, s2C, dlC, kyC, Nat.beq, Nat.ble, rcd, rno, rsw, Nat.reduceAdd, Nat.reduceBEq, Nat.reduceDiv, List.drop, List.take, List.reverse, List.reverseAux, Int.toNat, Option.toList, List.append, List.cons_append, List.nil_append, zg270, zg277, zg283, zg284]
      intro a87 e87 ob87
      cases e87
      have f88 : (fRC τ78 p1 277) = some (B j81) := by rw [show (fRC τ78 p1 277) = opA B (ojS z j) from op_78.1.2.2.2.1, hj81, opA_k]
      have c89 : (Int32.ofInt 1).toInt = 1 := by decide
      intro w90 τ90 o90 q90
      rw [f88] at q90 o90
      obtain ⟨v90, rfl, hv90, hR90⟩ := q90 (N, E, A, B, V, z, T, ms, nm, j81, Q78.2, true, f) ⟨_, _, rfl, hSs_78, hPf_78, hTg_78, ⟨hwf, hup, hBi⟩, hl81, rfl, hR78, (by first | omega | (show _ = bZI true; rw [show bZI true = 1 from rfl]; omega) | (show _ = bZI false; rw [show bZI false = 0 from rfl]; omega)), (by have := hup j hj; have := hup j81 hl81; omega)⟩
      obtain ⟨Q90, hQ90⟩ : ∃ q, (rcF N z T f).2.2 j81 true Q78.2 = q := ⟨_, rfl⟩
      rw [hQ90] at hv90 hR90
      have hF90 : FrE [217, 218, 282, 283, 284] σ τ90 := hF78.tr (o90.2.mo rfl)
      have hSs_90 := SsC.fr hSs hF90 rfl
      have hPf_90 := PfC.fr hPf hF90 rfl
      have hTg_90 := TgC.fr hTg hF90 rfl
      have op_90 : SlC A B τ90 z j p1 ∧ p1 < cnC τ90 := by rw [hp]; exact hSs_90.1 j hj
      have o85_90 := hSs_90.1 j81 hl81
      try dsimp only [Option.toList, List.cons_append, List.nil_append, s1C, s2C, dlC, kyC, Nat.beq, lkC, rcd, rno, rsw]
      refine ⟨fun h91 => ?_, fun h91 => ?_⟩
      · have g91 := (neI (x := v90) (y := 0) h91 : ¬ (v90 : Int32).toInt = (0 : Int32).toInt)
        have z0_ : (0 : Int32).toInt = 0 := rfl
        have hb91 : Q90.1 = true := bZI_t (by omega)
        refine hB _ _ _ _ _ (fun m92 hm92 => ?_)
        dsimp only [ucgo, ucwp, ucsC, uqC, uoC, ctC, rfd, KX2_reachInside, KX2_reachInside_0, KX2_reachInside_96, KX2_reachInside_102, KX2_reachInside_111, KX2_reachInside_118, KX2_reachInside_122, KX2_reachInside_123, KX2_reachInside_124, KX2_reachInside_138, KX2_reachInside_150, KX2_reachInside_154, KX2_reachInside_158, KX2_reachInside_159, KX2_reachInside_160, KX2_reachInside_170, KX2_reachInside_174, KX2_reachInside_175, KX2_reachInside_187, KX2_reachInside_194, KX2_reachInside_198, KX2_reachInside_199, KX2_reachInside_200, KX2_reachInside_209, KX2_reachInside_216, KX2_reachInside_220, KX2_reachInside_221, KX2_reachInside_226, KX2_reachInside_234, KX2_reachInside_241, KX2_reachInside_245, KX2_reachInside_246, KX2_reachInside_247, KX2_reachInside_253, KX2_reachInside_259, KX2_reachInside_265, KX2_reachInside_274, KX2_reachInside_283, KX2_reachInside_287, KX2_reachInside_288, lkC, s1C, s2C, dlC, kyC, Nat.beq, Nat.ble, rcd, rno, rsw, Nat.reduceAdd, Nat.reduceBEq, Nat.reduceDiv, List.drop, List.take, List.reverse, List.reverseAux, Int.toNat, Option.toList, List.append, List.cons_append, List.nil_append, zg270, zg277, zg283, zg284]
        have c93 : (Int32.ofInt 1).toInt = 1 := by decide
        refine hB _ _ _ _ _ (fun m94 hm94 => ?_)
        dsimp only [ucgo, ucwp, ucsC, uqC, uoC, ctC, rfd, KX2_reachInside, KX2_reachInside_0, KX2_reachInside_96, KX2_reachInside_102, KX2_reachInside_111, KX2_reachInside_118, KX2_reachInside_122, KX2_reachInside_123, KX2_reachInside_124, KX2_reachInside_138, KX2_reachInside_150, KX2_reachInside_154, KX2_reachInside_158, KX2_reachInside_159, KX2_reachInside_160, KX2_reachInside_170, KX2_reachInside_174, KX2_reachInside_175, KX2_reachInside_187, KX2_reachInside_194, KX2_reachInside_198, KX2_reachInside_199, KX2_reachInside_200, KX2_reachInside_209, KX2_reachInside_216, KX2_reachInside_220, KX2_reachInside_221, KX2_reachInside_226, KX2_reachInside_234, KX2_reachInside_241, KX2_reachInside_245, KX2_reachInside_246, KX2_reachInside_247, KX2_reachInside_253, KX2_reachInside_259, KX2_reachInside_265, KX2_reachInside_274, KX2_reachInside_283, KX2_reachInside_287, KX2_reachInside_288, lkC, s1C, s2C, dlC, kyC, Nat.beq, Nat.ble, rcd, rno, rsw, Nat.reduceAdd, Nat.reduceBEq, Nat.reduceDiv, List.drop, List.take, List.reverse, List.reverseAux, Int.toNat, Option.toList, List.append, List.cons_append, List.nil_append, zg270, zg277, zg283, zg284]
        try dsimp only [Qz_reachInside]
        have hfin : inR (rcF N z T f) N z T j r = (Q90.1 || Q78.1, Q90.2) := by
          rw [in_i (by omega)]
          unfold ifR
          rw [hQ78]
          dsimp only
          rw [if_neg (by omega), show (ojS z j).toNat = j81 by omega, hQ90]
        rw [hfin]
        refine ⟨_, rfl, ?_, hR90⟩
        show _ = bZI _
        simp only [hb91, Bool.true_or, Bool.or_true, Bool.false_or, Bool.or_false, Bool.and_true, Bool.true_and, Bool.and_false, Bool.false_and, Bool.not_true, Bool.not_false]
        first
          | omega
          | (show _ = (1 : Int); omega)
          | (show _ = (0 : Int); omega)
      · have g91 := (eqI (x := v90) (y := 0) h91 : (v90 : Int32).toInt = (0 : Int32).toInt)
        have z0_ : (0 : Int32).toInt = 0 := rfl
        have hb91 : Q90.1 = false := bZI_f (by omega)
        refine hB _ _ _ _ _ (fun m95 hm95 => ?_)
        dsimp only [ucgo, ucwp, ucsC, uqC, uoC, ctC, rfd, KX2_reachInside, KX2_reachInside_0, KX2_reachInside_96, KX2_reachInside_102, KX2_reachInside_111, KX2_reachInside_118, KX2_reachInside_122, KX2_reachInside_123, KX2_reachInside_124, KX2_reachInside_138, KX2_reachInside_150, KX2_reachInside_154, KX2_reachInside_158, KX2_reachInside_159, KX2_reachInside_160, KX2_reachInside_170, KX2_reachInside_174, KX2_reachInside_175, KX2_reachInside_187, KX2_reachInside_194, KX2_reachInside_198, KX2_reachInside_199, KX2_reachInside_200, KX2_reachInside_209, KX2_reachInside_216, KX2_reachInside_220, KX2_reachInside_221, KX2_reachInside_226, KX2_reachInside_234, KX2_reachInside_241, KX2_reachInside_245, KX2_reachInside_246, KX2_reachInside_247, KX2_reachInside_253, KX2_reachInside_259, KX2_reachInside_265, KX2_reachInside_274, KX2_reachInside_283, KX2_reachInside_287, KX2_reachInside_288, lkC, s1C, s2C, dlC, kyC, Nat.beq, Nat.ble, rcd, rno, rsw, Nat.reduceAdd, Nat.reduceBEq, Nat.reduceDiv, List.drop, List.take, List.reverse, List.reverseAux, Int.toNat, Option.toList, List.append, List.cons_append, List.nil_append, zg270, zg277, zg283, zg284]
        refine ⟨fun h96 => ?_, fun h96 => ?_⟩
        · have g96 := (eqI (x := v78) (y := 0) h96 : (v78 : Int32).toInt = (0 : Int32).toInt)
          have z0_ : (0 : Int32).toInt = 0 := rfl
          have hb96 : Q78.1 = false := bZI_f (by omega)
          refine hB _ _ _ _ _ (fun m97 hm97 => ?_)
          dsimp only [ucgo, ucwp, ucsC, uqC, uoC, ctC, rfd, KX2_reachInside, KX2_reachInside_0, KX2_reachInside_96, KX2_reachInside_102, KX2_reachInside_111, KX2_reachInside_118, KX2_reachInside_122, KX2_reachInside_123, KX2_reachInside_124, KX2_reachInside_138, KX2_reachInside_150, KX2_reachInside_154, KX2_reachInside_158, KX2_reachInside_159, KX2_reachInside_160, KX2_reachInside_170, KX2_reachInside_174, KX2_reachInside_175, KX2_reachInside_187, KX2_reachInside_194, KX2_reachInside_198, KX2_reachInside_199, KX2_reachInside_200, KX2_reachInside_209, KX2_reachInside_216, KX2_reachInside_220, KX2_reachInside_221, KX2_reachInside_226, KX2_reachInside_234, KX2_reachInside_241, KX2_reachInside_245, KX2_reachInside_246, KX2_reachInside_247, KX2_reachInside_253, KX2_reachInside_259, KX2_reachInside_265, KX2_reachInside_274, KX2_reachInside_283, KX2_reachInside_287, KX2_reachInside_288, lkC, s1C, s2C, dlC, kyC, Nat.beq, Nat.ble, rcd, rno, rsw, Nat.reduceAdd, Nat.reduceBEq, Nat.reduceDiv, List.drop, List.take, List.reverse, List.reverseAux, Int.toNat, Option.toList, List.append, List.cons_append, List.nil_append, zg270, zg277, zg283, zg284]
          have c98 : (Int32.ofInt 0).toInt = 0 := by decide
          refine hB _ _ _ _ _ (fun m99 hm99 => ?_)
          dsimp only [ucgo, ucwp, ucsC, uqC, uoC, ctC, rfd, KX2_reachInside, KX2_reachInside_0, KX2_reachInside_96, KX2_reachInside_102, KX2_reachInside_111, KX2_reachInside_118, KX2_reachInside_122, KX2_reachInside_123, KX2_reachInside_124, KX2_reachInside_138, KX2_reachInside_150, KX2_reachInside_154, KX2_reachInside_158, KX2_reachInside_159, KX2_reachInside_160, KX2_reachInside_170, KX2_reachInside_174, KX2_reachInside_175, KX2_reachInside_187, KX2_reachInside_194, KX2_reachInside_198, KX2_reachInside_199, KX2_reachInside_200, KX2_reachInside_209, KX2_reachInside_216, KX2_reachInside_220, KX2_reachInside_221, KX2_reachInside_226, KX2_reachInside_234, KX2_reachInside_241, KX2_reachInside_245, KX2_reachInside_246, KX2_reachInside_247, KX2_reachInside_253, KX2_reachInside_259, KX2_reachInside_265, KX2_reachInside_274, KX2_reachInside_283, KX2_reachInside_287, KX2_reachInside_288, lkC, s1C, s2C, dlC, kyC, Nat.beq, Nat.ble, rcd, rno, rsw, Nat.reduceAdd, Nat.reduceBEq, Nat.reduceDiv, List.drop, List.take, List.reverse, List.reverseAux, Int.toNat, Option.toList, List.append, List.cons_append, List.nil_append, zg270, zg277, zg283, zg284]
          try dsimp only [Qz_reachInside]
          have hfin : inR (rcF N z T f) N z T j r = (Q90.1 || Q78.1, Q90.2) := by
            rw [in_i (by omega)]
            unfold ifR
            rw [hQ78]
            dsimp only
            rw [if_neg (by omega), show (ojS z j).toNat = j81 by omega, hQ90]
          rw [hfin]
          refine ⟨_, rfl, ?_, hR90⟩
          show _ = bZI _
          simp only [hb91, hb96, Bool.true_or, Bool.or_true, Bool.false_or, Bool.or_false, Bool.and_true, Bool.true_and, Bool.and_false, Bool.false_and, Bool.not_true, Bool.not_false]
          first
            | omega
            | (show _ = (1 : Int); omega)
            | (show _ = (0 : Int); omega)
        · have g96 := (neI (x := v78) (y := 0) h96 : ¬ (v78 : Int32).toInt = (0 : Int32).toInt)
          have z0_ : (0 : Int32).toInt = 0 := rfl
          have hb96 : Q78.1 = true := bZI_t (by omega)
          refine hB _ _ _ _ _ (fun m100 hm100 => ?_)
          dsimp only [ucgo, ucwp, ucsC, uqC, uoC, ctC, rfd, KX2_reachInside, KX2_reachInside_0, KX2_reachInside_96, KX2_reachInside_102, KX2_reachInside_111, KX2_reachInside_118, KX2_reachInside_122, KX2_reachInside_123, KX2_reachInside_124, KX2_reachInside_138, KX2_reachInside_150, KX2_reachInside_154, KX2_reachInside_158, KX2_reachInside_159, KX2_reachInside_160, KX2_reachInside_170, KX2_reachInside_174, KX2_reachInside_175, KX2_reachInside_187, KX2_reachInside_194, KX2_reachInside_198, KX2_reachInside_199, KX2_reachInside_200, KX2_reachInside_209, KX2_reachInside_216, KX2_reachInside_220, KX2_reachInside_221, KX2_reachInside_226, KX2_reachInside_234, KX2_reachInside_241, KX2_reachInside_245, KX2_reachInside_246, KX2_reachInside_247, KX2_reachInside_253, KX2_reachInside_259, KX2_reachInside_265, KX2_reachInside_274, KX2_reachInside_283, KX2_reachInside_287, KX2_reachInside_288, lkC, s1C, s2C, dlC, kyC, Nat.beq, Nat.ble, rcd, rno, rsw, Nat.reduceAdd, Nat.reduceBEq, Nat.reduceDiv, List.drop, List.take, List.reverse, List.reverseAux, Int.toNat, Option.toList, List.append, List.cons_append, List.nil_append, zg270, zg277, zg283, zg284]
          have c101 : (Int32.ofInt 1).toInt = 1 := by decide
          refine hB _ _ _ _ _ (fun m102 hm102 => ?_)
          dsimp only [ucgo, ucwp, ucsC, uqC, uoC, ctC, rfd, KX2_reachInside, KX2_reachInside_0, KX2_reachInside_96, KX2_reachInside_102, KX2_reachInside_111, KX2_reachInside_118, KX2_reachInside_122, KX2_reachInside_123, KX2_reachInside_124, KX2_reachInside_138, KX2_reachInside_150, KX2_reachInside_154, KX2_reachInside_158, KX2_reachInside_159, KX2_reachInside_160, KX2_reachInside_170, KX2_reachInside_174, KX2_reachInside_175, KX2_reachInside_187, KX2_reachInside_194, KX2_reachInside_198, KX2_reachInside_199, KX2_reachInside_200, KX2_reachInside_209, KX2_reachInside_216, KX2_reachInside_220, KX2_reachInside_221, KX2_reachInside_226, KX2_reachInside_234, KX2_reachInside_241, KX2_reachInside_245, KX2_reachInside_246, KX2_reachInside_247, KX2_reachInside_253, KX2_reachInside_259, KX2_reachInside_265, KX2_reachInside_274, KX2_reachInside_283, KX2_reachInside_287, KX2_reachInside_288, lkC, s1C, s2C, dlC, kyC, Nat.beq, Nat.ble, rcd, rno, rsw, Nat.reduceAdd, Nat.reduceBEq, Nat.reduceDiv, List.drop, List.take, List.reverse, List.reverseAux, Int.toNat, Option.toList, List.append, List.cons_append, List.nil_append, zg270, zg277, zg283, zg284]
          try dsimp only [Qz_reachInside]
          have hfin : inR (rcF N z T f) N z T j r = (Q90.1 || Q78.1, Q90.2) := by
            rw [in_i (by omega)]
            unfold ifR
            rw [hQ78]
            dsimp only
            rw [if_neg (by omega), show (ojS z j).toNat = j81 by omega, hQ90]
          rw [hfin]
          refine ⟨_, rfl, ?_, hR90⟩
          show _ = bZI _
          simp only [hb91, hb96, Bool.true_or, Bool.or_true, Bool.false_or, Bool.or_false, Bool.and_true, Bool.true_and, Bool.and_false, Bool.false_and, Bool.not_true, Bool.not_false]
          first
            | omega
            | (show _ = (1 : Int); omega)
            | (show _ = (0 : Int); omega)
  have g75 : ¬ ((fIC σ p1 270) : Int32).toInt = 56 := h75
  refine ⟨fun h103 => ?_, fun h103 => ?_⟩
  · have g103 : ((fIC σ p1 270) : Int32).toInt = 58 := h103
    refine hB _ _ _ _ _ (fun m104 hm104 => ?_)
    dsimp only [ucgo, ucwp, ucsC, uqC, uoC, ctC, rfd, KX2_reachInside, KX2_reachInside_0, KX2_reachInside_96, KX2_reachInside_102, KX2_reachInside_111, KX2_reachInside_118, KX2_reachInside_122, KX2_reachInside_123, KX2_reachInside_124, KX2_reachInside_138, KX2_reachInside_150, KX2_reachInside_154, KX2_reachInside_158, KX2_reachInside_159, KX2_reachInside_160, KX2_reachInside_170, KX2_reachInside_174, KX2_reachInside_175, KX2_reachInside_187, KX2_reachInside_194, KX2_reachInside_198, KX2_reachInside_199, KX2_reachInside_200, KX2_reachInside_209, KX2_reachInside_216, KX2_reachInside_220, KX2_reachInside_221, KX2_reachInside_226, KX2_reachInside_234, KX2_reachInside_241, KX2_reachInside_245, KX2_reachInside_246, KX2_reachInside_247, KX2_reachInside_253, KX2_reachInside_259, KX2_reachInside_265, KX2_reachInside_274, KX2_reachInside_283, KX2_reachInside_287, KX2_reachInside_288, lkC, s1C, s2C, dlC, kyC, Nat.beq, Nat.ble, rcd, rno, rsw, Nat.reduceAdd, Nat.reduceBEq, Nat.reduceDiv, List.drop, List.take, List.reverse, List.reverseAux, Int.toNat, Option.toList, List.append, List.cons_append, List.nil_append, zg270, zg277, zg283, zg284]
    have c105 : (Int32.ofInt 0).toInt = 0 := by decide
    intro w106 τ106 o106 q106
    obtain ⟨r106, rfl, hr106, rfl⟩ := q106 (N, E, A, B, V, z, T, ms, nm, j) ⟨_, _, rfl, hSs, hwf, hj, hp⟩
    rw [show ((Int32.ofInt 0) : Int32).toInt = 0 by omega] at hr106
    try dsimp only [Option.toList, List.cons_append, List.nil_append, s1C, s2C, dlC, kyC, Nat.beq, lkC, rcd, rno, rsw]
    refine ⟨fun h107 => ?_, fun h107 => ?_⟩
    · have g107 := (neI (x := r106) (y := 0) h107 : ¬ (r106 : Int32).toInt = (0 : Int32).toInt)
      have z0_ : (0 : Int32).toInt = 0 := rfl
      have hb107 : (alwT z T j 0) = true := bZI_t (by omega)
      refine hB _ _ _ _ _ (fun m108 hm108 => ?_)
      dsimp only [ucgo, ucwp, ucsC, uqC, uoC, ctC, rfd, KX2_reachInside, KX2_reachInside_0, KX2_reachInside_96, KX2_reachInside_102, KX2_reachInside_111, KX2_reachInside_118, KX2_reachInside_122, KX2_reachInside_123, KX2_reachInside_124, KX2_reachInside_138, KX2_reachInside_150, KX2_reachInside_154, KX2_reachInside_158, KX2_reachInside_159, KX2_reachInside_160, KX2_reachInside_170, KX2_reachInside_174, KX2_reachInside_175, KX2_reachInside_187, KX2_reachInside_194, KX2_reachInside_198, KX2_reachInside_199, KX2_reachInside_200, KX2_reachInside_209, KX2_reachInside_216, KX2_reachInside_220, KX2_reachInside_221, KX2_reachInside_226, KX2_reachInside_234, KX2_reachInside_241, KX2_reachInside_245, KX2_reachInside_246, KX2_reachInside_247, KX2_reachInside_253, KX2_reachInside_259, KX2_reachInside_265, KX2_reachInside_274, KX2_reachInside_283, KX2_reachInside_287, KX2_reachInside_288, lkC, s1C, s2C, dlC, kyC, Nat.beq, Nat.ble, rcd, rno, rsw, Nat.reduceAdd, Nat.reduceBEq, Nat.reduceDiv, List.drop, List.take, List.reverse, List.reverseAux, Int.toNat, Option.toList, List.append, List.cons_append, List.nil_append, zg270, zg277, zg283, zg284]
      have c109 : (Int32.ofInt 0).toInt = 0 := by decide
      refine hB _ _ _ _ _ (fun m110 hm110 => ?_)
      dsimp only [ucgo, ucwp, ucsC, uqC, uoC, ctC, rfd, KX2_reachInside, KX2_reachInside_0, KX2_reachInside_96, KX2_reachInside_102, KX2_reachInside_111, KX2_reachInside_118, KX2_reachInside_122, KX2_reachInside_123, KX2_reachInside_124, KX2_reachInside_138, KX2_reachInside_150, KX2_reachInside_154, KX2_reachInside_158, KX2_reachInside_159, KX2_reachInside_160, KX2_reachInside_170, KX2_reachInside_174, KX2_reachInside_175, KX2_reachInside_187, KX2_reachInside_194, KX2_reachInside_198, KX2_reachInside_199, KX2_reachInside_200, KX2_reachInside_209, KX2_reachInside_216, KX2_reachInside_220, KX2_reachInside_221, KX2_reachInside_226, KX2_reachInside_234, KX2_reachInside_241, KX2_reachInside_245, KX2_reachInside_246, KX2_reachInside_247, KX2_reachInside_253, KX2_reachInside_259, KX2_reachInside_265, KX2_reachInside_274, KX2_reachInside_283, KX2_reachInside_287, KX2_reachInside_288, lkC, s1C, s2C, dlC, kyC, Nat.beq, Nat.ble, rcd, rno, rsw, Nat.reduceAdd, Nat.reduceBEq, Nat.reduceDiv, List.drop, List.take, List.reverse, List.reverseAux, Int.toNat, Option.toList, List.append, List.cons_append, List.nil_append, zg270, zg277, zg283, zg284]
      intro w111 τ111 o111 q111
      obtain ⟨v111, rfl, hv111, hR111⟩ := q111 (N, E, A, B, V, z, T, ms, nm, j, r, false, f) ⟨_, _, rfl, hSs, hPf, hTg, ⟨hwf, hup, hBi⟩, hj, hp, hR, (by first | omega | (show _ = bZI true; rw [show bZI true = 1 from rfl]; omega) | (show _ = bZI false; rw [show bZI false = 0 from rfl]; omega)), (by have := hup j hj; omega)⟩
      obtain ⟨Q111, hQ111⟩ : ∃ q, bdR (rcF N z T f) z j false r = q := ⟨_, rfl⟩
      rw [hQ111] at hv111 hR111
      have hF111 : FrE [217, 218, 282, 283, 284] σ τ111 := FrE.mo o111.2 rfl
      have hSs_111 := SsC.fr hSs hF111 rfl
      have hPf_111 := PfC.fr hPf hF111 rfl
      have hTg_111 := TgC.fr hTg hF111 rfl
      have op_111 : SlC A B τ111 z j p1 ∧ p1 < cnC τ111 := by rw [hp]; exact hSs_111.1 j hj
      try dsimp only [Option.toList, List.cons_append, List.nil_append, s1C, s2C, dlC, kyC, Nat.beq, lkC, rcd, rno, rsw]
      have c112 : (Int32.ofInt 1).toInt = 1 := by decide
      intro w113 τ113 o113 q113
      obtain ⟨r113, rfl, hr113, rfl⟩ := q113 (N, E, A, B, V, z, T, ms, nm, j) ⟨_, _, rfl, hSs_111, hwf, hj, hp⟩
      rw [show ((Int32.ofInt 1) : Int32).toInt = 1 by omega] at hr113
      try dsimp only [Option.toList, List.cons_append, List.nil_append, s1C, s2C, dlC, kyC, Nat.beq, lkC, rcd, rno, rsw]
      refine ⟨fun h114 => ?_, fun h114 => ?_⟩
      · have g114 := (eqI (x := r113) (y := 0) h114 : (r113 : Int32).toInt = (0 : Int32).toInt)
        have z0_ : (0 : Int32).toInt = 0 := rfl
        have hb114 : (alwT z T j 1) = false := bZI_f (by omega)
        refine hB _ _ _ _ _ (fun m115 hm115 => ?_)
        dsimp only [ucgo, ucwp, ucsC, uqC, uoC, ctC, rfd, KX2_reachInside, KX2_reachInside_0, KX2_reachInside_96, KX2_reachInside_102, KX2_reachInside_111, KX2_reachInside_118, KX2_reachInside_122, KX2_reachInside_123, KX2_reachInside_124, KX2_reachInside_138, KX2_reachInside_150, KX2_reachInside_154, KX2_reachInside_158, KX2_reachInside_159, KX2_reachInside_160, KX2_reachInside_170, KX2_reachInside_174, KX2_reachInside_175, KX2_reachInside_187, KX2_reachInside_194, KX2_reachInside_198, KX2_reachInside_199, KX2_reachInside_200, KX2_reachInside_209, KX2_reachInside_216, KX2_reachInside_220, KX2_reachInside_221, KX2_reachInside_226, KX2_reachInside_234, KX2_reachInside_241, KX2_reachInside_245, KX2_reachInside_246, KX2_reachInside_247, KX2_reachInside_253, KX2_reachInside_259, KX2_reachInside_265, KX2_reachInside_274, KX2_reachInside_283, KX2_reachInside_287, KX2_reachInside_288, lkC, s1C, s2C, dlC, kyC, Nat.beq, Nat.ble, rcd, rno, rsw, Nat.reduceAdd, Nat.reduceBEq, Nat.reduceDiv, List.drop, List.take, List.reverse, List.reverseAux, Int.toNat, Option.toList, List.append, List.cons_append, List.nil_append, zg270, zg277, zg283, zg284]
        have c116 : (Int32.ofInt 1).toInt = 1 := by decide
        refine hB _ _ _ _ _ (fun m117 hm117 => ?_)
        dsimp only [ucgo, ucwp, ucsC, uqC, uoC, ctC, rfd, KX2_reachInside, KX2_reachInside_0, KX2_reachInside_96, KX2_reachInside_102, KX2_reachInside_111, KX2_reachInside_118, KX2_reachInside_122, KX2_reachInside_123, KX2_reachInside_124, KX2_reachInside_138, KX2_reachInside_150, KX2_reachInside_154, KX2_reachInside_158, KX2_reachInside_159, KX2_reachInside_160, KX2_reachInside_170, KX2_reachInside_174, KX2_reachInside_175, KX2_reachInside_187, KX2_reachInside_194, KX2_reachInside_198, KX2_reachInside_199, KX2_reachInside_200, KX2_reachInside_209, KX2_reachInside_216, KX2_reachInside_220, KX2_reachInside_221, KX2_reachInside_226, KX2_reachInside_234, KX2_reachInside_241, KX2_reachInside_245, KX2_reachInside_246, KX2_reachInside_247, KX2_reachInside_253, KX2_reachInside_259, KX2_reachInside_265, KX2_reachInside_274, KX2_reachInside_283, KX2_reachInside_287, KX2_reachInside_288, lkC, s1C, s2C, dlC, kyC, Nat.beq, Nat.ble, rcd, rno, rsw, Nat.reduceAdd, Nat.reduceBEq, Nat.reduceDiv, List.drop, List.take, List.reverse, List.reverseAux, Int.toNat, Option.toList, List.append, List.cons_append, List.nil_append, zg270, zg277, zg283, zg284]
        try dsimp only [Qz_reachInside]
        have hfin : inR (rcF N z T f) N z T j r = (!(alwT z T j 1) || Q111.2.2.1 j, Q111.2) := by
          rw [in_w (by omega)]
          unfold whR
          rw [show (!(alwT z T j 0)) = false by rw [hb107]; rfl, hQ111]
        rw [hfin]
        refine ⟨_, rfl, ?_, hR111⟩
        show _ = bZI _
        simp only [hb107, hb114, Bool.true_or, Bool.or_true, Bool.false_or, Bool.or_false, Bool.and_true, Bool.true_and, Bool.and_false, Bool.false_and, Bool.not_true, Bool.not_false]
        first
          | omega
          | (show _ = (1 : Int); omega)
          | (show _ = (0 : Int); omega)
      · have g114 := (neI (x := r113) (y := 0) h114 : ¬ (r113 : Int32).toInt = (0 : Int32).toInt)
        have z0_ : (0 : Int32).toInt = 0 := rfl
        have hb114 : (alwT z T j 1) = true := bZI_t (by omega)
        refine hB _ _ _ _ _ (fun m118 hm118 => ?_)
        dsimp only [ucgo, ucwp, ucsC, uqC, uoC, ctC, rfd, KX2_reachInside, KX2_reachInside_0, KX2_reachInside_96, KX2_reachInside_102, KX2_reachInside_111, KX2_reachInside_118, KX2_reachInside_122, KX2_reachInside_123, KX2_reachInside_124, KX2_reachInside_138, KX2_reachInside_150, KX2_reachInside_154, KX2_reachInside_158, KX2_reachInside_159, KX2_reachInside_160, KX2_reachInside_170, KX2_reachInside_174, KX2_reachInside_175, KX2_reachInside_187, KX2_reachInside_194, KX2_reachInside_198, KX2_reachInside_199, KX2_reachInside_200, KX2_reachInside_209, KX2_reachInside_216, KX2_reachInside_220, KX2_reachInside_221, KX2_reachInside_226, KX2_reachInside_234, KX2_reachInside_241, KX2_reachInside_245, KX2_reachInside_246, KX2_reachInside_247, KX2_reachInside_253, KX2_reachInside_259, KX2_reachInside_265, KX2_reachInside_274, KX2_reachInside_283, KX2_reachInside_287, KX2_reachInside_288, lkC, s1C, s2C, dlC, kyC, Nat.beq, Nat.ble, rcd, rno, rsw, Nat.reduceAdd, Nat.reduceBEq, Nat.reduceDiv, List.drop, List.take, List.reverse, List.reverseAux, Int.toNat, Option.toList, List.append, List.cons_append, List.nil_append, zg270, zg277, zg283, zg284]
        intro a119 e119 ob119
        cases e119
        have f120 : (fIC τ111 p1 283).toInt = bZI (Q111.2.2.1 j) := by rw [hp]; exact (hR111.1 j hj).2.1
        refine ⟨fun h121 => ?_, fun h121 => ?_⟩
        · have g121 := (eqI (x := (fIC τ111 p1 283)) (y := 0) h121 : ((fIC τ111 p1 283) : Int32).toInt = (0 : Int32).toInt)
          have z0_ : (0 : Int32).toInt = 0 := rfl
          have hb121 : (Q111.2.2.1 j) = false := bZI_f (by omega)
          refine hB _ _ _ _ _ (fun m122 hm122 => ?_)
          dsimp only [ucgo, ucwp, ucsC, uqC, uoC, ctC, rfd, KX2_reachInside, KX2_reachInside_0, KX2_reachInside_96, KX2_reachInside_102, KX2_reachInside_111, KX2_reachInside_118, KX2_reachInside_122, KX2_reachInside_123, KX2_reachInside_124, KX2_reachInside_138, KX2_reachInside_150, KX2_reachInside_154, KX2_reachInside_158, KX2_reachInside_159, KX2_reachInside_160, KX2_reachInside_170, KX2_reachInside_174, KX2_reachInside_175, KX2_reachInside_187, KX2_reachInside_194, KX2_reachInside_198, KX2_reachInside_199, KX2_reachInside_200, KX2_reachInside_209, KX2_reachInside_216, KX2_reachInside_220, KX2_reachInside_221, KX2_reachInside_226, KX2_reachInside_234, KX2_reachInside_241, KX2_reachInside_245, KX2_reachInside_246, KX2_reachInside_247, KX2_reachInside_253, KX2_reachInside_259, KX2_reachInside_265, KX2_reachInside_274, KX2_reachInside_283, KX2_reachInside_287, KX2_reachInside_288, lkC, s1C, s2C, dlC, kyC, Nat.beq, Nat.ble, rcd, rno, rsw, Nat.reduceAdd, Nat.reduceBEq, Nat.reduceDiv, List.drop, List.take, List.reverse, List.reverseAux, Int.toNat, Option.toList, List.append, List.cons_append, List.nil_append, zg270, zg277, zg283, zg284]
          have c123 : (Int32.ofInt 0).toInt = 0 := by decide
          refine hB _ _ _ _ _ (fun m124 hm124 => ?_)
          dsimp only [ucgo, ucwp, ucsC, uqC, uoC, ctC, rfd, KX2_reachInside, KX2_reachInside_0, KX2_reachInside_96, KX2_reachInside_102, KX2_reachInside_111, KX2_reachInside_118, KX2_reachInside_122, KX2_reachInside_123, KX2_reachInside_124, KX2_reachInside_138, KX2_reachInside_150, KX2_reachInside_154, KX2_reachInside_158, KX2_reachInside_159, KX2_reachInside_160, KX2_reachInside_170, KX2_reachInside_174, KX2_reachInside_175, KX2_reachInside_187, KX2_reachInside_194, KX2_reachInside_198, KX2_reachInside_199, KX2_reachInside_200, KX2_reachInside_209, KX2_reachInside_216, KX2_reachInside_220, KX2_reachInside_221, KX2_reachInside_226, KX2_reachInside_234, KX2_reachInside_241, KX2_reachInside_245, KX2_reachInside_246, KX2_reachInside_247, KX2_reachInside_253, KX2_reachInside_259, KX2_reachInside_265, KX2_reachInside_274, KX2_reachInside_283, KX2_reachInside_287, KX2_reachInside_288, lkC, s1C, s2C, dlC, kyC, Nat.beq, Nat.ble, rcd, rno, rsw, Nat.reduceAdd, Nat.reduceBEq, Nat.reduceDiv, List.drop, List.take, List.reverse, List.reverseAux, Int.toNat, Option.toList, List.append, List.cons_append, List.nil_append, zg270, zg277, zg283, zg284]
          try dsimp only [Qz_reachInside]
          have hfin : inR (rcF N z T f) N z T j r = (!(alwT z T j 1) || Q111.2.2.1 j, Q111.2) := by
            rw [in_w (by omega)]
            unfold whR
            rw [show (!(alwT z T j 0)) = false by rw [hb107]; rfl, hQ111]
          rw [hfin]
          refine ⟨_, rfl, ?_, hR111⟩
          show _ = bZI _
          simp only [hb107, hb114, hb121, Bool.true_or, Bool.or_true, Bool.false_or, Bool.or_false, Bool.and_true, Bool.true_and, Bool.and_false, Bool.false_and, Bool.not_true, Bool.not_false]
          first
            | omega
            | (show _ = (1 : Int); omega)
            | (show _ = (0 : Int); omega)
        · have g121 := (neI (x := (fIC τ111 p1 283)) (y := 0) h121 : ¬ ((fIC τ111 p1 283) : Int32).toInt = (0 : Int32).toInt)
          have z0_ : (0 : Int32).toInt = 0 := rfl
          have hb121 : (Q111.2.2.1 j) = true := bZI_t (by omega)
          refine hB _ _ _ _ _ (fun m125 hm125 => ?_)
          dsimp only [ucgo, ucwp, ucsC, uqC, uoC, ctC, rfd, KX2_reachInside, KX2_reachInside_0, KX2_reachInside_96, KX2_reachInside_102, KX2_reachInside_111, KX2_reachInside_118, KX2_reachInside_122, KX2_reachInside_123, KX2_reachInside_124, KX2_reachInside_138, KX2_reachInside_150, KX2_reachInside_154, KX2_reachInside_158, KX2_reachInside_159, KX2_reachInside_160, KX2_reachInside_170, KX2_reachInside_174, KX2_reachInside_175, KX2_reachInside_187, KX2_reachInside_194, KX2_reachInside_198, KX2_reachInside_199, KX2_reachInside_200, KX2_reachInside_209, KX2_reachInside_216, KX2_reachInside_220, KX2_reachInside_221, KX2_reachInside_226, KX2_reachInside_234, KX2_reachInside_241, KX2_reachInside_245, KX2_reachInside_246, KX2_reachInside_247, KX2_reachInside_253, KX2_reachInside_259, KX2_reachInside_265, KX2_reachInside_274, KX2_reachInside_283, KX2_reachInside_287, KX2_reachInside_288, lkC, s1C, s2C, dlC, kyC, Nat.beq, Nat.ble, rcd, rno, rsw, Nat.reduceAdd, Nat.reduceBEq, Nat.reduceDiv, List.drop, List.take, List.reverse, List.reverseAux, Int.toNat, Option.toList, List.append, List.cons_append, List.nil_append, zg270, zg277, zg283, zg284]
          have c126 : (Int32.ofInt 1).toInt = 1 := by decide
          refine hB _ _ _ _ _ (fun m127 hm127 => ?_)
          dsimp only [ucgo, ucwp, ucsC, uqC, uoC, ctC, rfd, KX2_reachInside, KX2_reachInside_0, KX2_reachInside_96, KX2_reachInside_102, KX2_reachInside_111, KX2_reachInside_118, KX2_reachInside_122, KX2_reachInside_123, KX2_reachInside_124, KX2_reachInside_138, KX2_reachInside_150, KX2_reachInside_154, KX2_reachInside_158, KX2_reachInside_159, KX2_reachInside_160, KX2_reachInside_170, KX2_reachInside_174, KX2_reachInside_175, KX2_reachInside_187, KX2_reachInside_194, KX2_reachInside_198, KX2_reachInside_199, KX2_reachInside_200, KX2_reachInside_209, KX2_reachInside_216, KX2_reachInside_220, KX2_reachInside_221, KX2_reachInside_226, KX2_reachInside_234, KX2_reachInside_241, KX2_reachInside_245, KX2_reachInside_246, KX2_reachInside_247, KX2_reachInside_253, KX2_reachInside_259, KX2_reachInside_265, KX2_reachInside_274, KX2_reachInside_283, KX2_reachInside_287, KX2_reachInside_288, lkC, s1C, s2C, dlC, kyC, Nat.beq, Nat.ble, rcd, rno, rsw, Nat.reduceAdd, Nat.reduceBEq, Nat.reduceDiv, List.drop, List.take, List.reverse, List.reverseAux, Int.toNat, Option.toList, List.append, List.cons_append, List.nil_append, zg270, zg277, zg283, zg284]
          try dsimp only [Qz_reachInside]
          have hfin : inR (rcF N z T f) N z T j r = (!(alwT z T j 1) || Q111.2.2.1 j, Q111.2) := by
            rw [in_w (by omega)]
            unfold whR
            rw [show (!(alwT z T j 0)) = false by rw [hb107]; rfl, hQ111]
          rw [hfin]
          refine ⟨_, rfl, ?_, hR111⟩
          show _ = bZI _
          simp only [hb107, hb114, hb121, Bool.true_or, Bool.or_true, Bool.false_or, Bool.or_false, Bool.and_true, Bool.true_and, Bool.and_false, Bool.false_and, Bool.not_true, Bool.not_false]
          first
            | omega
            | (show _ = (1 : Int); omega)
            | (show _ = (0 : Int); omega)
    · have g107 := (eqI (x := r106) (y := 0) h107 : (r106 : Int32).toInt = (0 : Int32).toInt)
      have z0_ : (0 : Int32).toInt = 0 := rfl
      have hb107 : (alwT z T j 0) = false := bZI_f (by omega)
      refine hB _ _ _ _ _ (fun m128 hm128 => ?_)
      dsimp only [ucgo, ucwp, ucsC, uqC, uoC, ctC, rfd, KX2_reachInside, KX2_reachInside_0, KX2_reachInside_96, KX2_reachInside_102, KX2_reachInside_111, KX2_reachInside_118, KX2_reachInside_122, KX2_reachInside_123, KX2_reachInside_124, KX2_reachInside_138, KX2_reachInside_150, KX2_reachInside_154, KX2_reachInside_158, KX2_reachInside_159, KX2_reachInside_160, KX2_reachInside_170, KX2_reachInside_174, KX2_reachInside_175, KX2_reachInside_187, KX2_reachInside_194, KX2_reachInside_198, KX2_reachInside_199, KX2_reachInside_200, KX2_reachInside_209, KX2_reachInside_216, KX2_reachInside_220, KX2_reachInside_221, KX2_reachInside_226, KX2_reachInside_234, KX2_reachInside_241, KX2_reachInside_245, KX2_reachInside_246, KX2_reachInside_247, KX2_reachInside_253, KX2_reachInside_259, KX2_reachInside_265, KX2_reachInside_274, KX2_reachInside_283, KX2_reachInside_287, KX2_reachInside_288, lkC, s1C, s2C, dlC, kyC, Nat.beq, Nat.ble, rcd, rno, rsw, Nat.reduceAdd, Nat.reduceBEq, Nat.reduceDiv, List.drop, List.take, List.reverse, List.reverseAux, Int.toNat, Option.toList, List.append, List.cons_append, List.nil_append, zg270, zg277, zg283, zg284]
      have c129 : (Int32.ofInt 1).toInt = 1 := by decide
      refine hB _ _ _ _ _ (fun m130 hm130 => ?_)
      dsimp only [ucgo, ucwp, ucsC, uqC, uoC, ctC, rfd, KX2_reachInside, KX2_reachInside_0, KX2_reachInside_96, KX2_reachInside_102, KX2_reachInside_111, KX2_reachInside_118, KX2_reachInside_122, KX2_reachInside_123, KX2_reachInside_124, KX2_reachInside_138, KX2_reachInside_150, KX2_reachInside_154, KX2_reachInside_158, KX2_reachInside_159, KX2_reachInside_160, KX2_reachInside_170, KX2_reachInside_174, KX2_reachInside_175, KX2_reachInside_187, KX2_reachInside_194, KX2_reachInside_198, KX2_reachInside_199, KX2_reachInside_200, KX2_reachInside_209, KX2_reachInside_216, KX2_reachInside_220, KX2_reachInside_221, KX2_reachInside_226, KX2_reachInside_234, KX2_reachInside_241, KX2_reachInside_245, KX2_reachInside_246, KX2_reachInside_247, KX2_reachInside_253, KX2_reachInside_259, KX2_reachInside_265, KX2_reachInside_274, KX2_reachInside_283, KX2_reachInside_287, KX2_reachInside_288, lkC, s1C, s2C, dlC, kyC, Nat.beq, Nat.ble, rcd, rno, rsw, Nat.reduceAdd, Nat.reduceBEq, Nat.reduceDiv, List.drop, List.take, List.reverse, List.reverseAux, Int.toNat, Option.toList, List.append, List.cons_append, List.nil_append, zg270, zg277, zg283, zg284]
      intro w131 τ131 o131 q131
      obtain ⟨v131, rfl, hv131, hR131⟩ := q131 (N, E, A, B, V, z, T, ms, nm, j, r, true, f) ⟨_, _, rfl, hSs, hPf, hTg, ⟨hwf, hup, hBi⟩, hj, hp, hR, (by first | omega | (show _ = bZI true; rw [show bZI true = 1 from rfl]; omega) | (show _ = bZI false; rw [show bZI false = 0 from rfl]; omega)), (by have := hup j hj; omega)⟩
      obtain ⟨Q131, hQ131⟩ : ∃ q, bdR (rcF N z T f) z j true r = q := ⟨_, rfl⟩
      rw [hQ131] at hv131 hR131
      have hF131 : FrE [217, 218, 282, 283, 284] σ τ131 := FrE.mo o131.2 rfl
      have hSs_131 := SsC.fr hSs hF131 rfl
      have hPf_131 := PfC.fr hPf hF131 rfl
      have hTg_131 := TgC.fr hTg hF131 rfl
      have op_131 : SlC A B τ131 z j p1 ∧ p1 < cnC τ131 := by rw [hp]; exact hSs_131.1 j hj
      try dsimp only [Option.toList, List.cons_append, List.nil_append, s1C, s2C, dlC, kyC, Nat.beq, lkC, rcd, rno, rsw]
      have c132 : (Int32.ofInt 1).toInt = 1 := by decide
      intro w133 τ133 o133 q133
      obtain ⟨r133, rfl, hr133, rfl⟩ := q133 (N, E, A, B, V, z, T, ms, nm, j) ⟨_, _, rfl, hSs_131, hwf, hj, hp⟩
      rw [show ((Int32.ofInt 1) : Int32).toInt = 1 by omega] at hr133
      try dsimp only [Option.toList, List.cons_append, List.nil_append, s1C, s2C, dlC, kyC, Nat.beq, lkC, rcd, rno, rsw]
      refine ⟨fun h134 => ?_, fun h134 => ?_⟩
      · have g134 := (eqI (x := r133) (y := 0) h134 : (r133 : Int32).toInt = (0 : Int32).toInt)
        have z0_ : (0 : Int32).toInt = 0 := rfl
        have hb134 : (alwT z T j 1) = false := bZI_f (by omega)
        refine hB _ _ _ _ _ (fun m135 hm135 => ?_)
        dsimp only [ucgo, ucwp, ucsC, uqC, uoC, ctC, rfd, KX2_reachInside, KX2_reachInside_0, KX2_reachInside_96, KX2_reachInside_102, KX2_reachInside_111, KX2_reachInside_118, KX2_reachInside_122, KX2_reachInside_123, KX2_reachInside_124, KX2_reachInside_138, KX2_reachInside_150, KX2_reachInside_154, KX2_reachInside_158, KX2_reachInside_159, KX2_reachInside_160, KX2_reachInside_170, KX2_reachInside_174, KX2_reachInside_175, KX2_reachInside_187, KX2_reachInside_194, KX2_reachInside_198, KX2_reachInside_199, KX2_reachInside_200, KX2_reachInside_209, KX2_reachInside_216, KX2_reachInside_220, KX2_reachInside_221, KX2_reachInside_226, KX2_reachInside_234, KX2_reachInside_241, KX2_reachInside_245, KX2_reachInside_246, KX2_reachInside_247, KX2_reachInside_253, KX2_reachInside_259, KX2_reachInside_265, KX2_reachInside_274, KX2_reachInside_283, KX2_reachInside_287, KX2_reachInside_288, lkC, s1C, s2C, dlC, kyC, Nat.beq, Nat.ble, rcd, rno, rsw, Nat.reduceAdd, Nat.reduceBEq, Nat.reduceDiv, List.drop, List.take, List.reverse, List.reverseAux, Int.toNat, Option.toList, List.append, List.cons_append, List.nil_append, zg270, zg277, zg283, zg284]
        have c136 : (Int32.ofInt 1).toInt = 1 := by decide
        refine hB _ _ _ _ _ (fun m137 hm137 => ?_)
        dsimp only [ucgo, ucwp, ucsC, uqC, uoC, ctC, rfd, KX2_reachInside, KX2_reachInside_0, KX2_reachInside_96, KX2_reachInside_102, KX2_reachInside_111, KX2_reachInside_118, KX2_reachInside_122, KX2_reachInside_123, KX2_reachInside_124, KX2_reachInside_138, KX2_reachInside_150, KX2_reachInside_154, KX2_reachInside_158, KX2_reachInside_159, KX2_reachInside_160, KX2_reachInside_170, KX2_reachInside_174, KX2_reachInside_175, KX2_reachInside_187, KX2_reachInside_194, KX2_reachInside_198, KX2_reachInside_199, KX2_reachInside_200, KX2_reachInside_209, KX2_reachInside_216, KX2_reachInside_220, KX2_reachInside_221, KX2_reachInside_226, KX2_reachInside_234, KX2_reachInside_241, KX2_reachInside_245, KX2_reachInside_246, KX2_reachInside_247, KX2_reachInside_253, KX2_reachInside_259, KX2_reachInside_265, KX2_reachInside_274, KX2_reachInside_283, KX2_reachInside_287, KX2_reachInside_288, lkC, s1C, s2C, dlC, kyC, Nat.beq, Nat.ble, rcd, rno, rsw, Nat.reduceAdd, Nat.reduceBEq, Nat.reduceDiv, List.drop, List.take, List.reverse, List.reverseAux, Int.toNat, Option.toList, List.append, List.cons_append, List.nil_append, zg270, zg277, zg283, zg284]
        try dsimp only [Qz_reachInside]
        have hfin : inR (rcF N z T f) N z T j r = (!(alwT z T j 1) || Q131.2.2.1 j, Q131.2) := by
          rw [in_w (by omega)]
          unfold whR
          rw [show (!(alwT z T j 0)) = true by rw [hb107]; rfl, hQ131]
        rw [hfin]
        refine ⟨_, rfl, ?_, hR131⟩
        show _ = bZI _
        simp only [hb107, hb134, Bool.true_or, Bool.or_true, Bool.false_or, Bool.or_false, Bool.and_true, Bool.true_and, Bool.and_false, Bool.false_and, Bool.not_true, Bool.not_false]
        first
          | omega
          | (show _ = (1 : Int); omega)
          | (show _ = (0 : Int); omega)
      · have g134 := (neI (x := r133) (y := 0) h134 : ¬ (r133 : Int32).toInt = (0 : Int32).toInt)
        have z0_ : (0 : Int32).toInt = 0 := rfl
        have hb134 : (alwT z T j 1) = true := bZI_t (by omega)
        refine hB _ _ _ _ _ (fun m138 hm138 => ?_)
        dsimp only [ucgo, ucwp, ucsC, uqC, uoC, ctC, rfd, KX2_reachInside, KX2_reachInside_0, KX2_reachInside_96, KX2_reachInside_102, KX2_reachInside_111, KX2_reachInside_118, KX2_reachInside_122, KX2_reachInside_123, KX2_reachInside_124, KX2_reachInside_138, KX2_reachInside_150, KX2_reachInside_154, KX2_reachInside_158, KX2_reachInside_159, KX2_reachInside_160, KX2_reachInside_170, KX2_reachInside_174, KX2_reachInside_175, KX2_reachInside_187, KX2_reachInside_194, KX2_reachInside_198, KX2_reachInside_199, KX2_reachInside_200, KX2_reachInside_209, KX2_reachInside_216, KX2_reachInside_220, KX2_reachInside_221, KX2_reachInside_226, KX2_reachInside_234, KX2_reachInside_241, KX2_reachInside_245, KX2_reachInside_246, KX2_reachInside_247, KX2_reachInside_253, KX2_reachInside_259, KX2_reachInside_265, KX2_reachInside_274, KX2_reachInside_283, KX2_reachInside_287, KX2_reachInside_288, lkC, s1C, s2C, dlC, kyC, Nat.beq, Nat.ble, rcd, rno, rsw, Nat.reduceAdd, Nat.reduceBEq, Nat.reduceDiv, List.drop, List.take, List.reverse, List.reverseAux, Int.toNat, Option.toList, List.append, List.cons_append, List.nil_append, zg270, zg277, zg283, zg284]
        intro a139 e139 ob139
        cases e139
        have f140 : (fIC τ131 p1 283).toInt = bZI (Q131.2.2.1 j) := by rw [hp]; exact (hR131.1 j hj).2.1
        refine ⟨fun h141 => ?_, fun h141 => ?_⟩
        · have g141 := (eqI (x := (fIC τ131 p1 283)) (y := 0) h141 : ((fIC τ131 p1 283) : Int32).toInt = (0 : Int32).toInt)
          have z0_ : (0 : Int32).toInt = 0 := rfl
          have hb141 : (Q131.2.2.1 j) = false := bZI_f (by omega)
          refine hB _ _ _ _ _ (fun m142 hm142 => ?_)
          dsimp only [ucgo, ucwp, ucsC, uqC, uoC, ctC, rfd, KX2_reachInside, KX2_reachInside_0, KX2_reachInside_96, KX2_reachInside_102, KX2_reachInside_111, KX2_reachInside_118, KX2_reachInside_122, KX2_reachInside_123, KX2_reachInside_124, KX2_reachInside_138, KX2_reachInside_150, KX2_reachInside_154, KX2_reachInside_158, KX2_reachInside_159, KX2_reachInside_160, KX2_reachInside_170, KX2_reachInside_174, KX2_reachInside_175, KX2_reachInside_187, KX2_reachInside_194, KX2_reachInside_198, KX2_reachInside_199, KX2_reachInside_200, KX2_reachInside_209, KX2_reachInside_216, KX2_reachInside_220, KX2_reachInside_221, KX2_reachInside_226, KX2_reachInside_234, KX2_reachInside_241, KX2_reachInside_245, KX2_reachInside_246, KX2_reachInside_247, KX2_reachInside_253, KX2_reachInside_259, KX2_reachInside_265, KX2_reachInside_274, KX2_reachInside_283, KX2_reachInside_287, KX2_reachInside_288, lkC, s1C, s2C, dlC, kyC, Nat.beq, Nat.ble, rcd, rno, rsw, Nat.reduceAdd, Nat.reduceBEq, Nat.reduceDiv, List.drop, List.take, List.reverse, List.reverseAux, Int.toNat, Option.toList, List.append, List.cons_append, List.nil_append, zg270, zg277, zg283, zg284]
          have c143 : (Int32.ofInt 0).toInt = 0 := by decide
          refine hB _ _ _ _ _ (fun m144 hm144 => ?_)
          dsimp only [ucgo, ucwp, ucsC, uqC, uoC, ctC, rfd, KX2_reachInside, KX2_reachInside_0, KX2_reachInside_96, KX2_reachInside_102, KX2_reachInside_111, KX2_reachInside_118, KX2_reachInside_122, KX2_reachInside_123, KX2_reachInside_124, KX2_reachInside_138, KX2_reachInside_150, KX2_reachInside_154, KX2_reachInside_158, KX2_reachInside_159, KX2_reachInside_160, KX2_reachInside_170, KX2_reachInside_174, KX2_reachInside_175, KX2_reachInside_187, KX2_reachInside_194, KX2_reachInside_198, KX2_reachInside_199, KX2_reachInside_200, KX2_reachInside_209, KX2_reachInside_216, KX2_reachInside_220, KX2_reachInside_221, KX2_reachInside_226, KX2_reachInside_234, KX2_reachInside_241, KX2_reachInside_245, KX2_reachInside_246, KX2_reachInside_247, KX2_reachInside_253, KX2_reachInside_259, KX2_reachInside_265, KX2_reachInside_274, KX2_reachInside_283, KX2_reachInside_287, KX2_reachInside_288, lkC, s1C, s2C, dlC, kyC, Nat.beq, Nat.ble, rcd, rno, rsw, Nat.reduceAdd, Nat.reduceBEq, Nat.reduceDiv, List.drop, List.take, List.reverse, List.reverseAux, Int.toNat, Option.toList, List.append, List.cons_append, List.nil_append, zg270, zg277, zg283, zg284]
          try dsimp only [Qz_reachInside]
          have hfin : inR (rcF N z T f) N z T j r = (!(alwT z T j 1) || Q131.2.2.1 j, Q131.2) := by
            rw [in_w (by omega)]
            unfold whR
            rw [show (!(alwT z T j 0)) = true by rw [hb107]; rfl, hQ131]
          rw [hfin]
          refine ⟨_, rfl, ?_, hR131⟩
          show _ = bZI _
          simp only [hb107, hb134, hb141, Bool.true_or, Bool.or_true, Bool.false_or, Bool.or_false, Bool.and_true, Bool.true_and, Bool.and_false, Bool.false_and, Bool.not_true, Bool.not_false]
          first
            | omega
            | (show _ = (1 : Int); omega)
            | (show _ = (0 : Int); omega)
        · have g141 := (neI (x := (fIC τ131 p1 283)) (y := 0) h141 : ¬ ((fIC τ131 p1 283) : Int32).toInt = (0 : Int32).toInt)
          have z0_ : (0 : Int32).toInt = 0 := rfl
          have hb141 : (Q131.2.2.1 j) = true := bZI_t (by omega)
          refine hB _ _ _ _ _ (fun m145 hm145 => ?_)
          dsimp only [ucgo, ucwp, ucsC, uqC, uoC, ctC, rfd, KX2_reachInside, KX2_reachInside_0, KX2_reachInside_96, KX2_reachInside_102, KX2_reachInside_111, KX2_reachInside_118, KX2_reachInside_122, KX2_reachInside_123, KX2_reachInside_124, KX2_reachInside_138, KX2_reachInside_150, KX2_reachInside_154, KX2_reachInside_158, KX2_reachInside_159, KX2_reachInside_160, KX2_reachInside_170, KX2_reachInside_174, KX2_reachInside_175, KX2_reachInside_187, KX2_reachInside_194, KX2_reachInside_198, KX2_reachInside_199, KX2_reachInside_200, KX2_reachInside_209, KX2_reachInside_216, KX2_reachInside_220, KX2_reachInside_221, KX2_reachInside_226, KX2_reachInside_234, KX2_reachInside_241, KX2_reachInside_245, KX2_reachInside_246, KX2_reachInside_247, KX2_reachInside_253, KX2_reachInside_259, KX2_reachInside_265, KX2_reachInside_274, KX2_reachInside_283, KX2_reachInside_287, KX2_reachInside_288, lkC, s1C, s2C, dlC, kyC, Nat.beq, Nat.ble, rcd, rno, rsw, Nat.reduceAdd, Nat.reduceBEq, Nat.reduceDiv, List.drop, List.take, List.reverse, List.reverseAux, Int.toNat, Option.toList, List.append, List.cons_append, List.nil_append, zg270, zg277, zg283, zg284]
          have c146 : (Int32.ofInt 1).toInt = 1 := by decide
          refine hB _ _ _ _ _ (fun m147 hm147 => ?_)
          dsimp only [ucgo, ucwp, ucsC, uqC, uoC, ctC, rfd, KX2_reachInside, KX2_reachInside_0, KX2_reachInside_96, KX2_reachInside_102, KX2_reachInside_111, KX2_reachInside_118, KX2_reachInside_122, KX2_reachInside_123, KX2_reachInside_124, KX2_reachInside_138, KX2_reachInside_150, KX2_reachInside_154, KX2_reachInside_158, KX2_reachInside_159, KX2_reachInside_160, KX2_reachInside_170, KX2_reachInside_174, KX2_reachInside_175, KX2_reachInside_187, KX2_reachInside_194, KX2_reachInside_198, KX2_reachInside_199, KX2_reachInside_200, KX2_reachInside_209, KX2_reachInside_216, KX2_reachInside_220, KX2_reachInside_221, KX2_reachInside_226, KX2_reachInside_234, KX2_reachInside_241, KX2_reachInside_245, KX2_reachInside_246, KX2_reachInside_247, KX2_reachInside_253, KX2_reachInside_259, KX2_reachInside_265, KX2_reachInside_274, KX2_reachInside_283, KX2_reachInside_287, KX2_reachInside_288, lkC, s1C, s2C, dlC, kyC, Nat.beq, Nat.ble, rcd, rno, rsw, Nat.reduceAdd, Nat.reduceBEq, Nat.reduceDiv, List.drop, List.take, List.reverse, List.reverseAux, Int.toNat, Option.toList, List.append, List.cons_append, List.nil_append, zg270, zg277, zg283, zg284]
          try dsimp only [Qz_reachInside]
          have hfin : inR (rcF N z T f) N z T j r = (!(alwT z T j 1) || Q131.2.2.1 j, Q131.2) := by
            rw [in_w (by omega)]
            unfold whR
            rw [show (!(alwT z T j 0)) = true by rw [hb107]; rfl, hQ131]
          rw [hfin]
          refine ⟨_, rfl, ?_, hR131⟩
          show _ = bZI _
          simp only [hb107, hb134, hb141, Bool.true_or, Bool.or_true, Bool.false_or, Bool.or_false, Bool.and_true, Bool.true_and, Bool.and_false, Bool.false_and, Bool.not_true, Bool.not_false]
          first
            | omega
            | (show _ = (1 : Int); omega)
            | (show _ = (0 : Int); omega)
  have g103 : ¬ ((fIC σ p1 270) : Int32).toInt = 58 := h103
  refine ⟨fun h148 => ?_, fun h148 => ?_⟩
  · have g148 : ((fIC σ p1 270) : Int32).toInt = 59 := h148
    refine hB _ _ _ _ _ (fun m149 hm149 => ?_)
    dsimp only [ucgo, ucwp, ucsC, uqC, uoC, ctC, rfd, KX2_reachInside, KX2_reachInside_0, KX2_reachInside_96, KX2_reachInside_102, KX2_reachInside_111, KX2_reachInside_118, KX2_reachInside_122, KX2_reachInside_123, KX2_reachInside_124, KX2_reachInside_138, KX2_reachInside_150, KX2_reachInside_154, KX2_reachInside_158, KX2_reachInside_159, KX2_reachInside_160, KX2_reachInside_170, KX2_reachInside_174, KX2_reachInside_175, KX2_reachInside_187, KX2_reachInside_194, KX2_reachInside_198, KX2_reachInside_199, KX2_reachInside_200, KX2_reachInside_209, KX2_reachInside_216, KX2_reachInside_220, KX2_reachInside_221, KX2_reachInside_226, KX2_reachInside_234, KX2_reachInside_241, KX2_reachInside_245, KX2_reachInside_246, KX2_reachInside_247, KX2_reachInside_253, KX2_reachInside_259, KX2_reachInside_265, KX2_reachInside_274, KX2_reachInside_283, KX2_reachInside_287, KX2_reachInside_288, lkC, s1C, s2C, dlC, kyC, Nat.beq, Nat.ble, rcd, rno, rsw, Nat.reduceAdd, Nat.reduceBEq, Nat.reduceDiv, List.drop, List.take, List.reverse, List.reverseAux, Int.toNat, Option.toList, List.append, List.cons_append, List.nil_append, zg270, zg277, zg283, zg284]
    have c150 : (Int32.ofInt 1).toInt = 1 := by decide
    intro w151 τ151 o151 q151
    obtain ⟨v151, rfl, hv151, hR151⟩ := q151 (N, E, A, B, V, z, T, ms, nm, j, r, true, f) ⟨_, _, rfl, hSs, hPf, hTg, ⟨hwf, hup, hBi⟩, hj, hp, hR, (by first | omega | (show _ = bZI true; rw [show bZI true = 1 from rfl]; omega) | (show _ = bZI false; rw [show bZI false = 0 from rfl]; omega)), (by have := hup j hj; omega)⟩
    obtain ⟨Q151, hQ151⟩ : ∃ q, bdR (rcF N z T f) z j true r = q := ⟨_, rfl⟩
    rw [hQ151] at hv151 hR151
    have hF151 : FrE [217, 218, 282, 283, 284] σ τ151 := FrE.mo o151.2 rfl
    have hSs_151 := SsC.fr hSs hF151 rfl
    have hPf_151 := PfC.fr hPf hF151 rfl
    have hTg_151 := TgC.fr hTg hF151 rfl
    have op_151 : SlC A B τ151 z j p1 ∧ p1 < cnC τ151 := by rw [hp]; exact hSs_151.1 j hj
    try dsimp only [Option.toList, List.cons_append, List.nil_append, s1C, s2C, dlC, kyC, Nat.beq, lkC, rcd, rno, rsw]
    refine ⟨fun h152 => ?_, fun h152 => ?_⟩
    · have g152 := (neI (x := v151) (y := 0) h152 : ¬ (v151 : Int32).toInt = (0 : Int32).toInt)
      have z0_ : (0 : Int32).toInt = 0 := rfl
      have hb152 : Q151.1 = true := bZI_t (by omega)
      refine hB _ _ _ _ _ (fun m153 hm153 => ?_)
      dsimp only [ucgo, ucwp, ucsC, uqC, uoC, ctC, rfd, KX2_reachInside, KX2_reachInside_0, KX2_reachInside_96, KX2_reachInside_102, KX2_reachInside_111, KX2_reachInside_118, KX2_reachInside_122, KX2_reachInside_123, KX2_reachInside_124, KX2_reachInside_138, KX2_reachInside_150, KX2_reachInside_154, KX2_reachInside_158, KX2_reachInside_159, KX2_reachInside_160, KX2_reachInside_170, KX2_reachInside_174, KX2_reachInside_175, KX2_reachInside_187, KX2_reachInside_194, KX2_reachInside_198, KX2_reachInside_199, KX2_reachInside_200, KX2_reachInside_209, KX2_reachInside_216, KX2_reachInside_220, KX2_reachInside_221, KX2_reachInside_226, KX2_reachInside_234, KX2_reachInside_241, KX2_reachInside_245, KX2_reachInside_246, KX2_reachInside_247, KX2_reachInside_253, KX2_reachInside_259, KX2_reachInside_265, KX2_reachInside_274, KX2_reachInside_283, KX2_reachInside_287, KX2_reachInside_288, lkC, s1C, s2C, dlC, kyC, Nat.beq, Nat.ble, rcd, rno, rsw, Nat.reduceAdd, Nat.reduceBEq, Nat.reduceDiv, List.drop, List.take, List.reverse, List.reverseAux, Int.toNat, Option.toList, List.append, List.cons_append, List.nil_append, zg270, zg277, zg283, zg284]
      have c154 : (Int32.ofInt 1).toInt = 1 := by decide
      refine hB _ _ _ _ _ (fun m155 hm155 => ?_)
      dsimp only [ucgo, ucwp, ucsC, uqC, uoC, ctC, rfd, KX2_reachInside, KX2_reachInside_0, KX2_reachInside_96, KX2_reachInside_102, KX2_reachInside_111, KX2_reachInside_118, KX2_reachInside_122, KX2_reachInside_123, KX2_reachInside_124, KX2_reachInside_138, KX2_reachInside_150, KX2_reachInside_154, KX2_reachInside_158, KX2_reachInside_159, KX2_reachInside_160, KX2_reachInside_170, KX2_reachInside_174, KX2_reachInside_175, KX2_reachInside_187, KX2_reachInside_194, KX2_reachInside_198, KX2_reachInside_199, KX2_reachInside_200, KX2_reachInside_209, KX2_reachInside_216, KX2_reachInside_220, KX2_reachInside_221, KX2_reachInside_226, KX2_reachInside_234, KX2_reachInside_241, KX2_reachInside_245, KX2_reachInside_246, KX2_reachInside_247, KX2_reachInside_253, KX2_reachInside_259, KX2_reachInside_265, KX2_reachInside_274, KX2_reachInside_283, KX2_reachInside_287, KX2_reachInside_288, lkC, s1C, s2C, dlC, kyC, Nat.beq, Nat.ble, rcd, rno, rsw, Nat.reduceAdd, Nat.reduceBEq, Nat.reduceDiv, List.drop, List.take, List.reverse, List.reverseAux, Int.toNat, Option.toList, List.append, List.cons_append, List.nil_append, zg270, zg277, zg283, zg284]
      refine ⟨fun h156 => ?_, fun h156 => ?_⟩
      · have g156 := (eqI (x := (Int32.ofInt 1)) (y := 0) h156 : ((Int32.ofInt 1) : Int32).toInt = (0 : Int32).toInt)
        have z0_ : (0 : Int32).toInt = 0 := rfl
        exfalso
        omega
      · have g156 := (neI (x := (Int32.ofInt 1)) (y := 0) h156 : ¬ ((Int32.ofInt 1) : Int32).toInt = (0 : Int32).toInt)
        have z0_ : (0 : Int32).toInt = 0 := rfl
        refine hB _ _ _ _ _ (fun m157 hm157 => ?_)
        dsimp only [ucgo, ucwp, ucsC, uqC, uoC, ctC, rfd, KX2_reachInside, KX2_reachInside_0, KX2_reachInside_96, KX2_reachInside_102, KX2_reachInside_111, KX2_reachInside_118, KX2_reachInside_122, KX2_reachInside_123, KX2_reachInside_124, KX2_reachInside_138, KX2_reachInside_150, KX2_reachInside_154, KX2_reachInside_158, KX2_reachInside_159, KX2_reachInside_160, KX2_reachInside_170, KX2_reachInside_174, KX2_reachInside_175, KX2_reachInside_187, KX2_reachInside_194, KX2_reachInside_198, KX2_reachInside_199, KX2_reachInside_200, KX2_reachInside_209, KX2_reachInside_216, KX2_reachInside_220, KX2_reachInside_221, KX2_reachInside_226, KX2_reachInside_234, KX2_reachInside_241, KX2_reachInside_245, KX2_reachInside_246, KX2_reachInside_247, KX2_reachInside_253, KX2_reachInside_259, KX2_reachInside_265, KX2_reachInside_274, KX2_reachInside_283, KX2_reachInside_287, KX2_reachInside_288, lkC, s1C, s2C, dlC, kyC, Nat.beq, Nat.ble, rcd, rno, rsw, Nat.reduceAdd, Nat.reduceBEq, Nat.reduceDiv, List.drop, List.take, List.reverse, List.reverseAux, Int.toNat, Option.toList, List.append, List.cons_append, List.nil_append, zg270, zg277, zg283, zg284]
        have c158 : (Int32.ofInt 1).toInt = 1 := by decide
        intro w159 τ159 o159 q159
        obtain ⟨r159, rfl, hr159, rfl⟩ := q159 (N, E, A, B, V, z, T, ms, nm, j) ⟨_, _, rfl, hSs_151, hwf, hj, hp⟩
        rw [show ((Int32.ofInt 1) : Int32).toInt = 1 by omega] at hr159
        try dsimp only [Option.toList, List.cons_append, List.nil_append, s1C, s2C, dlC, kyC, Nat.beq, lkC, rcd, rno, rsw]
        refine ⟨fun h160 => ?_, fun h160 => ?_⟩
        · have g160 := (eqI (x := r159) (y := 0) h160 : (r159 : Int32).toInt = (0 : Int32).toInt)
          have z0_ : (0 : Int32).toInt = 0 := rfl
          have hb160 : (alwT z T j 1) = false := bZI_f (by omega)
          refine hB _ _ _ _ _ (fun m161 hm161 => ?_)
          dsimp only [ucgo, ucwp, ucsC, uqC, uoC, ctC, rfd, KX2_reachInside, KX2_reachInside_0, KX2_reachInside_96, KX2_reachInside_102, KX2_reachInside_111, KX2_reachInside_118, KX2_reachInside_122, KX2_reachInside_123, KX2_reachInside_124, KX2_reachInside_138, KX2_reachInside_150, KX2_reachInside_154, KX2_reachInside_158, KX2_reachInside_159, KX2_reachInside_160, KX2_reachInside_170, KX2_reachInside_174, KX2_reachInside_175, KX2_reachInside_187, KX2_reachInside_194, KX2_reachInside_198, KX2_reachInside_199, KX2_reachInside_200, KX2_reachInside_209, KX2_reachInside_216, KX2_reachInside_220, KX2_reachInside_221, KX2_reachInside_226, KX2_reachInside_234, KX2_reachInside_241, KX2_reachInside_245, KX2_reachInside_246, KX2_reachInside_247, KX2_reachInside_253, KX2_reachInside_259, KX2_reachInside_265, KX2_reachInside_274, KX2_reachInside_283, KX2_reachInside_287, KX2_reachInside_288, lkC, s1C, s2C, dlC, kyC, Nat.beq, Nat.ble, rcd, rno, rsw, Nat.reduceAdd, Nat.reduceBEq, Nat.reduceDiv, List.drop, List.take, List.reverse, List.reverseAux, Int.toNat, Option.toList, List.append, List.cons_append, List.nil_append, zg270, zg277, zg283, zg284]
          have c162 : (Int32.ofInt 1).toInt = 1 := by decide
          refine hB _ _ _ _ _ (fun m163 hm163 => ?_)
          dsimp only [ucgo, ucwp, ucsC, uqC, uoC, ctC, rfd, KX2_reachInside, KX2_reachInside_0, KX2_reachInside_96, KX2_reachInside_102, KX2_reachInside_111, KX2_reachInside_118, KX2_reachInside_122, KX2_reachInside_123, KX2_reachInside_124, KX2_reachInside_138, KX2_reachInside_150, KX2_reachInside_154, KX2_reachInside_158, KX2_reachInside_159, KX2_reachInside_160, KX2_reachInside_170, KX2_reachInside_174, KX2_reachInside_175, KX2_reachInside_187, KX2_reachInside_194, KX2_reachInside_198, KX2_reachInside_199, KX2_reachInside_200, KX2_reachInside_209, KX2_reachInside_216, KX2_reachInside_220, KX2_reachInside_221, KX2_reachInside_226, KX2_reachInside_234, KX2_reachInside_241, KX2_reachInside_245, KX2_reachInside_246, KX2_reachInside_247, KX2_reachInside_253, KX2_reachInside_259, KX2_reachInside_265, KX2_reachInside_274, KX2_reachInside_283, KX2_reachInside_287, KX2_reachInside_288, lkC, s1C, s2C, dlC, kyC, Nat.beq, Nat.ble, rcd, rno, rsw, Nat.reduceAdd, Nat.reduceBEq, Nat.reduceDiv, List.drop, List.take, List.reverse, List.reverseAux, Int.toNat, Option.toList, List.append, List.cons_append, List.nil_append, zg270, zg277, zg283, zg284]
          try dsimp only [Qz_reachInside]
          have hfin : inR (rcF N z T f) N z T j r = (((Q151.1 || Q151.2.2.2.1 j) && !(alwT z T j 1)) || Q151.2.2.1 j, Q151.2) := by
            rw [in_d (by omega)]
            unfold doR
            rw [hQ151]
          rw [hfin]
          refine ⟨_, rfl, ?_, hR151⟩
          show _ = bZI _
          simp only [hb152, hb160, Bool.true_or, Bool.or_true, Bool.false_or, Bool.or_false, Bool.and_true, Bool.true_and, Bool.and_false, Bool.false_and, Bool.not_true, Bool.not_false]
          first
            | omega
            | (show _ = (1 : Int); omega)
            | (show _ = (0 : Int); omega)
        · have g160 := (neI (x := r159) (y := 0) h160 : ¬ (r159 : Int32).toInt = (0 : Int32).toInt)
          have z0_ : (0 : Int32).toInt = 0 := rfl
          have hb160 : (alwT z T j 1) = true := bZI_t (by omega)
          refine hB _ _ _ _ _ (fun m164 hm164 => ?_)
          dsimp only [ucgo, ucwp, ucsC, uqC, uoC, ctC, rfd, KX2_reachInside, KX2_reachInside_0, KX2_reachInside_96, KX2_reachInside_102, KX2_reachInside_111, KX2_reachInside_118, KX2_reachInside_122, KX2_reachInside_123, KX2_reachInside_124, KX2_reachInside_138, KX2_reachInside_150, KX2_reachInside_154, KX2_reachInside_158, KX2_reachInside_159, KX2_reachInside_160, KX2_reachInside_170, KX2_reachInside_174, KX2_reachInside_175, KX2_reachInside_187, KX2_reachInside_194, KX2_reachInside_198, KX2_reachInside_199, KX2_reachInside_200, KX2_reachInside_209, KX2_reachInside_216, KX2_reachInside_220, KX2_reachInside_221, KX2_reachInside_226, KX2_reachInside_234, KX2_reachInside_241, KX2_reachInside_245, KX2_reachInside_246, KX2_reachInside_247, KX2_reachInside_253, KX2_reachInside_259, KX2_reachInside_265, KX2_reachInside_274, KX2_reachInside_283, KX2_reachInside_287, KX2_reachInside_288, lkC, s1C, s2C, dlC, kyC, Nat.beq, Nat.ble, rcd, rno, rsw, Nat.reduceAdd, Nat.reduceBEq, Nat.reduceDiv, List.drop, List.take, List.reverse, List.reverseAux, Int.toNat, Option.toList, List.append, List.cons_append, List.nil_append, zg270, zg277, zg283, zg284]
          intro a165 e165 ob165
          cases e165
          have f166 : (fIC τ151 p1 283).toInt = bZI (Q151.2.2.1 j) := by rw [hp]; exact (hR151.1 j hj).2.1
          refine ⟨fun h167 => ?_, fun h167 => ?_⟩
          · have g167 := (eqI (x := (fIC τ151 p1 283)) (y := 0) h167 : ((fIC τ151 p1 283) : Int32).toInt = (0 : Int32).toInt)
            have z0_ : (0 : Int32).toInt = 0 := rfl
            have hb167 : (Q151.2.2.1 j) = false := bZI_f (by omega)
            refine hB _ _ _ _ _ (fun m168 hm168 => ?_)
            dsimp only [ucgo, ucwp, ucsC, uqC, uoC, ctC, rfd, KX2_reachInside, KX2_reachInside_0, KX2_reachInside_96, KX2_reachInside_102, KX2_reachInside_111, KX2_reachInside_118, KX2_reachInside_122, KX2_reachInside_123, KX2_reachInside_124, KX2_reachInside_138, KX2_reachInside_150, KX2_reachInside_154, KX2_reachInside_158, KX2_reachInside_159, KX2_reachInside_160, KX2_reachInside_170, KX2_reachInside_174, KX2_reachInside_175, KX2_reachInside_187, KX2_reachInside_194, KX2_reachInside_198, KX2_reachInside_199, KX2_reachInside_200, KX2_reachInside_209, KX2_reachInside_216, KX2_reachInside_220, KX2_reachInside_221, KX2_reachInside_226, KX2_reachInside_234, KX2_reachInside_241, KX2_reachInside_245, KX2_reachInside_246, KX2_reachInside_247, KX2_reachInside_253, KX2_reachInside_259, KX2_reachInside_265, KX2_reachInside_274, KX2_reachInside_283, KX2_reachInside_287, KX2_reachInside_288, lkC, s1C, s2C, dlC, kyC, Nat.beq, Nat.ble, rcd, rno, rsw, Nat.reduceAdd, Nat.reduceBEq, Nat.reduceDiv, List.drop, List.take, List.reverse, List.reverseAux, Int.toNat, Option.toList, List.append, List.cons_append, List.nil_append, zg270, zg277, zg283, zg284]
            have c169 : (Int32.ofInt 0).toInt = 0 := by decide
            refine hB _ _ _ _ _ (fun m170 hm170 => ?_)
            dsimp only [ucgo, ucwp, ucsC, uqC, uoC, ctC, rfd, KX2_reachInside, KX2_reachInside_0, KX2_reachInside_96, KX2_reachInside_102, KX2_reachInside_111, KX2_reachInside_118, KX2_reachInside_122, KX2_reachInside_123, KX2_reachInside_124, KX2_reachInside_138, KX2_reachInside_150, KX2_reachInside_154, KX2_reachInside_158, KX2_reachInside_159, KX2_reachInside_160, KX2_reachInside_170, KX2_reachInside_174, KX2_reachInside_175, KX2_reachInside_187, KX2_reachInside_194, KX2_reachInside_198, KX2_reachInside_199, KX2_reachInside_200, KX2_reachInside_209, KX2_reachInside_216, KX2_reachInside_220, KX2_reachInside_221, KX2_reachInside_226, KX2_reachInside_234, KX2_reachInside_241, KX2_reachInside_245, KX2_reachInside_246, KX2_reachInside_247, KX2_reachInside_253, KX2_reachInside_259, KX2_reachInside_265, KX2_reachInside_274, KX2_reachInside_283, KX2_reachInside_287, KX2_reachInside_288, lkC, s1C, s2C, dlC, kyC, Nat.beq, Nat.ble, rcd, rno, rsw, Nat.reduceAdd, Nat.reduceBEq, Nat.reduceDiv, List.drop, List.take, List.reverse, List.reverseAux, Int.toNat, Option.toList, List.append, List.cons_append, List.nil_append, zg270, zg277, zg283, zg284]
            try dsimp only [Qz_reachInside]
            have hfin : inR (rcF N z T f) N z T j r = (((Q151.1 || Q151.2.2.2.1 j) && !(alwT z T j 1)) || Q151.2.2.1 j, Q151.2) := by
              rw [in_d (by omega)]
              unfold doR
              rw [hQ151]
            rw [hfin]
            refine ⟨_, rfl, ?_, hR151⟩
            show _ = bZI _
            simp only [hb152, hb160, hb167, Bool.true_or, Bool.or_true, Bool.false_or, Bool.or_false, Bool.and_true, Bool.true_and, Bool.and_false, Bool.false_and, Bool.not_true, Bool.not_false]
            first
              | omega
              | (show _ = (1 : Int); omega)
              | (show _ = (0 : Int); omega)
          · have g167 := (neI (x := (fIC τ151 p1 283)) (y := 0) h167 : ¬ ((fIC τ151 p1 283) : Int32).toInt = (0 : Int32).toInt)
            have z0_ : (0 : Int32).toInt = 0 := rfl
            have hb167 : (Q151.2.2.1 j) = true := bZI_t (by omega)
            refine hB _ _ _ _ _ (fun m171 hm171 => ?_)
            dsimp only [ucgo, ucwp, ucsC, uqC, uoC, ctC, rfd, KX2_reachInside, KX2_reachInside_0, KX2_reachInside_96, KX2_reachInside_102, KX2_reachInside_111, KX2_reachInside_118, KX2_reachInside_122, KX2_reachInside_123, KX2_reachInside_124, KX2_reachInside_138, KX2_reachInside_150, KX2_reachInside_154, KX2_reachInside_158, KX2_reachInside_159, KX2_reachInside_160, KX2_reachInside_170, KX2_reachInside_174, KX2_reachInside_175, KX2_reachInside_187, KX2_reachInside_194, KX2_reachInside_198, KX2_reachInside_199, KX2_reachInside_200, KX2_reachInside_209, KX2_reachInside_216, KX2_reachInside_220, KX2_reachInside_221, KX2_reachInside_226, KX2_reachInside_234, KX2_reachInside_241, KX2_reachInside_245, KX2_reachInside_246, KX2_reachInside_247, KX2_reachInside_253, KX2_reachInside_259, KX2_reachInside_265, KX2_reachInside_274, KX2_reachInside_283, KX2_reachInside_287, KX2_reachInside_288, lkC, s1C, s2C, dlC, kyC, Nat.beq, Nat.ble, rcd, rno, rsw, Nat.reduceAdd, Nat.reduceBEq, Nat.reduceDiv, List.drop, List.take, List.reverse, List.reverseAux, Int.toNat, Option.toList, List.append, List.cons_append, List.nil_append, zg270, zg277, zg283, zg284]
            have c172 : (Int32.ofInt 1).toInt = 1 := by decide
            refine hB _ _ _ _ _ (fun m173 hm173 => ?_)
            dsimp only [ucgo, ucwp, ucsC, uqC, uoC, ctC, rfd, KX2_reachInside, KX2_reachInside_0, KX2_reachInside_96, KX2_reachInside_102, KX2_reachInside_111, KX2_reachInside_118, KX2_reachInside_122, KX2_reachInside_123, KX2_reachInside_124, KX2_reachInside_138, KX2_reachInside_150, KX2_reachInside_154, KX2_reachInside_158, KX2_reachInside_159, KX2_reachInside_160, KX2_reachInside_170, KX2_reachInside_174, KX2_reachInside_175, KX2_reachInside_187, KX2_reachInside_194, KX2_reachInside_198, KX2_reachInside_199, KX2_reachInside_200, KX2_reachInside_209, KX2_reachInside_216, KX2_reachInside_220, KX2_reachInside_221, KX2_reachInside_226, KX2_reachInside_234, KX2_reachInside_241, KX2_reachInside_245, KX2_reachInside_246, KX2_reachInside_247, KX2_reachInside_253, KX2_reachInside_259, KX2_reachInside_265, KX2_reachInside_274, KX2_reachInside_283, KX2_reachInside_287, KX2_reachInside_288, lkC, s1C, s2C, dlC, kyC, Nat.beq, Nat.ble, rcd, rno, rsw, Nat.reduceAdd, Nat.reduceBEq, Nat.reduceDiv, List.drop, List.take, List.reverse, List.reverseAux, Int.toNat, Option.toList, List.append, List.cons_append, List.nil_append, zg270, zg277, zg283, zg284]
            try dsimp only [Qz_reachInside]
            have hfin : inR (rcF N z T f) N z T j r = (((Q151.1 || Q151.2.2.2.1 j) && !(alwT z T j 1)) || Q151.2.2.1 j, Q151.2) := by
              rw [in_d (by omega)]
              unfold doR
              rw [hQ151]
            rw [hfin]
            refine ⟨_, rfl, ?_, hR151⟩
            show _ = bZI _
            simp only [hb152, hb160, hb167, Bool.true_or, Bool.or_true, Bool.false_or, Bool.or_false, Bool.and_true, Bool.true_and, Bool.and_false, Bool.false_and, Bool.not_true, Bool.not_false]
            first
              | omega
              | (show _ = (1 : Int); omega)
              | (show _ = (0 : Int); omega)
    · have g152 := (eqI (x := v151) (y := 0) h152 : (v151 : Int32).toInt = (0 : Int32).toInt)
      have z0_ : (0 : Int32).toInt = 0 := rfl
      have hb152 : Q151.1 = false := bZI_f (by omega)
      refine hB _ _ _ _ _ (fun m174 hm174 => ?_)
      dsimp only [ucgo, ucwp, ucsC, uqC, uoC, ctC, rfd, KX2_reachInside, KX2_reachInside_0, KX2_reachInside_96, KX2_reachInside_102, KX2_reachInside_111, KX2_reachInside_118, KX2_reachInside_122, KX2_reachInside_123, KX2_reachInside_124, KX2_reachInside_138, KX2_reachInside_150, KX2_reachInside_154, KX2_reachInside_158, KX2_reachInside_159, KX2_reachInside_160, KX2_reachInside_170, KX2_reachInside_174, KX2_reachInside_175, KX2_reachInside_187, KX2_reachInside_194, KX2_reachInside_198, KX2_reachInside_199, KX2_reachInside_200, KX2_reachInside_209, KX2_reachInside_216, KX2_reachInside_220, KX2_reachInside_221, KX2_reachInside_226, KX2_reachInside_234, KX2_reachInside_241, KX2_reachInside_245, KX2_reachInside_246, KX2_reachInside_247, KX2_reachInside_253, KX2_reachInside_259, KX2_reachInside_265, KX2_reachInside_274, KX2_reachInside_283, KX2_reachInside_287, KX2_reachInside_288, lkC, s1C, s2C, dlC, kyC, Nat.beq, Nat.ble, rcd, rno, rsw, Nat.reduceAdd, Nat.reduceBEq, Nat.reduceDiv, List.drop, List.take, List.reverse, List.reverseAux, Int.toNat, Option.toList, List.append, List.cons_append, List.nil_append, zg270, zg277, zg283, zg284]
      intro a175 e175 ob175
      cases e175
      have f176 : (fIC τ151 p1 284).toInt = bZI (Q151.2.2.2.1 j) := by rw [hp]; exact (hR151.1 j hj).2.2
      refine ⟨fun h177 => ?_, fun h177 => ?_⟩
      · have g177 := (eqI (x := (fIC τ151 p1 284)) (y := 0) h177 : ((fIC τ151 p1 284) : Int32).toInt = (0 : Int32).toInt)
        have z0_ : (0 : Int32).toInt = 0 := rfl
        have hb177 : (Q151.2.2.2.1 j) = false := bZI_f (by omega)
        refine hB _ _ _ _ _ (fun m178 hm178 => ?_)
        dsimp only [ucgo, ucwp, ucsC, uqC, uoC, ctC, rfd, KX2_reachInside, KX2_reachInside_0, KX2_reachInside_96, KX2_reachInside_102, KX2_reachInside_111, KX2_reachInside_118, KX2_reachInside_122, KX2_reachInside_123, KX2_reachInside_124, KX2_reachInside_138, KX2_reachInside_150, KX2_reachInside_154, KX2_reachInside_158, KX2_reachInside_159, KX2_reachInside_160, KX2_reachInside_170, KX2_reachInside_174, KX2_reachInside_175, KX2_reachInside_187, KX2_reachInside_194, KX2_reachInside_198, KX2_reachInside_199, KX2_reachInside_200, KX2_reachInside_209, KX2_reachInside_216, KX2_reachInside_220, KX2_reachInside_221, KX2_reachInside_226, KX2_reachInside_234, KX2_reachInside_241, KX2_reachInside_245, KX2_reachInside_246, KX2_reachInside_247, KX2_reachInside_253, KX2_reachInside_259, KX2_reachInside_265, KX2_reachInside_274, KX2_reachInside_283, KX2_reachInside_287, KX2_reachInside_288, lkC, s1C, s2C, dlC, kyC, Nat.beq, Nat.ble, rcd, rno, rsw, Nat.reduceAdd, Nat.reduceBEq, Nat.reduceDiv, List.drop, List.take, List.reverse, List.reverseAux, Int.toNat, Option.toList, List.append, List.cons_append, List.nil_append, zg270, zg277, zg283, zg284]
        have c179 : (Int32.ofInt 0).toInt = 0 := by decide
        refine hB _ _ _ _ _ (fun m180 hm180 => ?_)
        dsimp only [ucgo, ucwp, ucsC, uqC, uoC, ctC, rfd, KX2_reachInside, KX2_reachInside_0, KX2_reachInside_96, KX2_reachInside_102, KX2_reachInside_111, KX2_reachInside_118, KX2_reachInside_122, KX2_reachInside_123, KX2_reachInside_124, KX2_reachInside_138, KX2_reachInside_150, KX2_reachInside_154, KX2_reachInside_158, KX2_reachInside_159, KX2_reachInside_160, KX2_reachInside_170, KX2_reachInside_174, KX2_reachInside_175, KX2_reachInside_187, KX2_reachInside_194, KX2_reachInside_198, KX2_reachInside_199, KX2_reachInside_200, KX2_reachInside_209, KX2_reachInside_216, KX2_reachInside_220, KX2_reachInside_221, KX2_reachInside_226, KX2_reachInside_234, KX2_reachInside_241, KX2_reachInside_245, KX2_reachInside_246, KX2_reachInside_247, KX2_reachInside_253, KX2_reachInside_259, KX2_reachInside_265, KX2_reachInside_274, KX2_reachInside_283, KX2_reachInside_287, KX2_reachInside_288, lkC, s1C, s2C, dlC, kyC, Nat.beq, Nat.ble, rcd, rno, rsw, Nat.reduceAdd, Nat.reduceBEq, Nat.reduceDiv, List.drop, List.take, List.reverse, List.reverseAux, Int.toNat, Option.toList, List.append, List.cons_append, List.nil_append, zg270, zg277, zg283, zg284]
        refine ⟨fun h181 => ?_, fun h181 => ?_⟩
        · have g181 := (eqI (x := (Int32.ofInt 0)) (y := 0) h181 : ((Int32.ofInt 0) : Int32).toInt = (0 : Int32).toInt)
          have z0_ : (0 : Int32).toInt = 0 := rfl
          refine hB _ _ _ _ _ (fun m182 hm182 => ?_)
          dsimp only [ucgo, ucwp, ucsC, uqC, uoC, ctC, rfd, KX2_reachInside, KX2_reachInside_0, KX2_reachInside_96, KX2_reachInside_102, KX2_reachInside_111, KX2_reachInside_118, KX2_reachInside_122, KX2_reachInside_123, KX2_reachInside_124, KX2_reachInside_138, KX2_reachInside_150, KX2_reachInside_154, KX2_reachInside_158, KX2_reachInside_159, KX2_reachInside_160, KX2_reachInside_170, KX2_reachInside_174, KX2_reachInside_175, KX2_reachInside_187, KX2_reachInside_194, KX2_reachInside_198, KX2_reachInside_199, KX2_reachInside_200, KX2_reachInside_209, KX2_reachInside_216, KX2_reachInside_220, KX2_reachInside_221, KX2_reachInside_226, KX2_reachInside_234, KX2_reachInside_241, KX2_reachInside_245, KX2_reachInside_246, KX2_reachInside_247, KX2_reachInside_253, KX2_reachInside_259, KX2_reachInside_265, KX2_reachInside_274, KX2_reachInside_283, KX2_reachInside_287, KX2_reachInside_288, lkC, s1C, s2C, dlC, kyC, Nat.beq, Nat.ble, rcd, rno, rsw, Nat.reduceAdd, Nat.reduceBEq, Nat.reduceDiv, List.drop, List.take, List.reverse, List.reverseAux, Int.toNat, Option.toList, List.append, List.cons_append, List.nil_append, zg270, zg277, zg283, zg284]
          intro a183 e183 ob183
          cases e183
          have f184 : (fIC τ151 p1 283).toInt = bZI (Q151.2.2.1 j) := by rw [hp]; exact (hR151.1 j hj).2.1
          refine ⟨fun h185 => ?_, fun h185 => ?_⟩
          · have g185 := (eqI (x := (fIC τ151 p1 283)) (y := 0) h185 : ((fIC τ151 p1 283) : Int32).toInt = (0 : Int32).toInt)
            have z0_ : (0 : Int32).toInt = 0 := rfl
            have hb185 : (Q151.2.2.1 j) = false := bZI_f (by omega)
            refine hB _ _ _ _ _ (fun m186 hm186 => ?_)
            dsimp only [ucgo, ucwp, ucsC, uqC, uoC, ctC, rfd, KX2_reachInside, KX2_reachInside_0, KX2_reachInside_96, KX2_reachInside_102, KX2_reachInside_111, KX2_reachInside_118, KX2_reachInside_122, KX2_reachInside_123, KX2_reachInside_124, KX2_reachInside_138, KX2_reachInside_150, KX2_reachInside_154, KX2_reachInside_158, KX2_reachInside_159, KX2_reachInside_160, KX2_reachInside_170, KX2_reachInside_174, KX2_reachInside_175, KX2_reachInside_187, KX2_reachInside_194, KX2_reachInside_198, KX2_reachInside_199, KX2_reachInside_200, KX2_reachInside_209, KX2_reachInside_216, KX2_reachInside_220, KX2_reachInside_221, KX2_reachInside_226, KX2_reachInside_234, KX2_reachInside_241, KX2_reachInside_245, KX2_reachInside_246, KX2_reachInside_247, KX2_reachInside_253, KX2_reachInside_259, KX2_reachInside_265, KX2_reachInside_274, KX2_reachInside_283, KX2_reachInside_287, KX2_reachInside_288, lkC, s1C, s2C, dlC, kyC, Nat.beq, Nat.ble, rcd, rno, rsw, Nat.reduceAdd, Nat.reduceBEq, Nat.reduceDiv, List.drop, List.take, List.reverse, List.reverseAux, Int.toNat, Option.toList, List.append, List.cons_append, List.nil_append, zg270, zg277, zg283, zg284]
            have c187 : (Int32.ofInt 0).toInt = 0 := by decide
            refine hB _ _ _ _ _ (fun m188 hm188 => ?_)
            dsimp only [ucgo, ucwp, ucsC, uqC, uoC, ctC, rfd, KX2_reachInside, KX2_reachInside_0, KX2_reachInside_96, KX2_reachInside_102, KX2_reachInside_111, KX2_reachInside_118, KX2_reachInside_122, KX2_reachInside_123, KX2_reachInside_124, KX2_reachInside_138, KX2_reachInside_150, KX2_reachInside_154, KX2_reachInside_158, KX2_reachInside_159, KX2_reachInside_160, KX2_reachInside_170, KX2_reachInside_174, KX2_reachInside_175, KX2_reachInside_187, KX2_reachInside_194, KX2_reachInside_198, KX2_reachInside_199, KX2_reachInside_200, KX2_reachInside_209, KX2_reachInside_216, KX2_reachInside_220, KX2_reachInside_221, KX2_reachInside_226, KX2_reachInside_234, KX2_reachInside_241, KX2_reachInside_245, KX2_reachInside_246, KX2_reachInside_247, KX2_reachInside_253, KX2_reachInside_259, KX2_reachInside_265, KX2_reachInside_274, KX2_reachInside_283, KX2_reachInside_287, KX2_reachInside_288, lkC, s1C, s2C, dlC, kyC, Nat.beq, Nat.ble, rcd, rno, rsw, Nat.reduceAdd, Nat.reduceBEq, Nat.reduceDiv, List.drop, List.take, List.reverse, List.reverseAux, Int.toNat, Option.toList, List.append, List.cons_append, List.nil_append, zg270, zg277, zg283, zg284]
            try dsimp only [Qz_reachInside]
            have hfin : inR (rcF N z T f) N z T j r = (((Q151.1 || Q151.2.2.2.1 j) && !(alwT z T j 1)) || Q151.2.2.1 j, Q151.2) := by
              rw [in_d (by omega)]
              unfold doR
              rw [hQ151]
            rw [hfin]
            refine ⟨_, rfl, ?_, hR151⟩
            show _ = bZI _
            simp only [hb152, hb177, hb185, Bool.true_or, Bool.or_true, Bool.false_or, Bool.or_false, Bool.and_true, Bool.true_and, Bool.and_false, Bool.false_and, Bool.not_true, Bool.not_false]
            first
              | omega
              | (show _ = (1 : Int); omega)
              | (show _ = (0 : Int); omega)
          · have g185 := (neI (x := (fIC τ151 p1 283)) (y := 0) h185 : ¬ ((fIC τ151 p1 283) : Int32).toInt = (0 : Int32).toInt)
            have z0_ : (0 : Int32).toInt = 0 := rfl
            have hb185 : (Q151.2.2.1 j) = true := bZI_t (by omega)
            refine hB _ _ _ _ _ (fun m189 hm189 => ?_)
            dsimp only [ucgo, ucwp, ucsC, uqC, uoC, ctC, rfd, KX2_reachInside, KX2_reachInside_0, KX2_reachInside_96, KX2_reachInside_102, KX2_reachInside_111, KX2_reachInside_118, KX2_reachInside_122, KX2_reachInside_123, KX2_reachInside_124, KX2_reachInside_138, KX2_reachInside_150, KX2_reachInside_154, KX2_reachInside_158, KX2_reachInside_159, KX2_reachInside_160, KX2_reachInside_170, KX2_reachInside_174, KX2_reachInside_175, KX2_reachInside_187, KX2_reachInside_194, KX2_reachInside_198, KX2_reachInside_199, KX2_reachInside_200, KX2_reachInside_209, KX2_reachInside_216, KX2_reachInside_220, KX2_reachInside_221, KX2_reachInside_226, KX2_reachInside_234, KX2_reachInside_241, KX2_reachInside_245, KX2_reachInside_246, KX2_reachInside_247, KX2_reachInside_253, KX2_reachInside_259, KX2_reachInside_265, KX2_reachInside_274, KX2_reachInside_283, KX2_reachInside_287, KX2_reachInside_288, lkC, s1C, s2C, dlC, kyC, Nat.beq, Nat.ble, rcd, rno, rsw, Nat.reduceAdd, Nat.reduceBEq, Nat.reduceDiv, List.drop, List.take, List.reverse, List.reverseAux, Int.toNat, Option.toList, List.append, List.cons_append, List.nil_append, zg270, zg277, zg283, zg284]
            have c190 : (Int32.ofInt 1).toInt = 1 := by decide
            refine hB _ _ _ _ _ (fun m191 hm191 => ?_)
            dsimp only [ucgo, ucwp, ucsC, uqC, uoC, ctC, rfd, KX2_reachInside, KX2_reachInside_0, KX2_reachInside_96, KX2_reachInside_102, KX2_reachInside_111, KX2_reachInside_118, KX2_reachInside_122, KX2_reachInside_123, KX2_reachInside_124, KX2_reachInside_138, KX2_reachInside_150, KX2_reachInside_154, KX2_reachInside_158, KX2_reachInside_159, KX2_reachInside_160, KX2_reachInside_170, KX2_reachInside_174, KX2_reachInside_175, KX2_reachInside_187, KX2_reachInside_194, KX2_reachInside_198, KX2_reachInside_199, KX2_reachInside_200, KX2_reachInside_209, KX2_reachInside_216, KX2_reachInside_220, KX2_reachInside_221, KX2_reachInside_226, KX2_reachInside_234, KX2_reachInside_241, KX2_reachInside_245, KX2_reachInside_246, KX2_reachInside_247, KX2_reachInside_253, KX2_reachInside_259, KX2_reachInside_265, KX2_reachInside_274, KX2_reachInside_283, KX2_reachInside_287, KX2_reachInside_288, lkC, s1C, s2C, dlC, kyC, Nat.beq, Nat.ble, rcd, rno, rsw, Nat.reduceAdd, Nat.reduceBEq, Nat.reduceDiv, List.drop, List.take, List.reverse, List.reverseAux, Int.toNat, Option.toList, List.append, List.cons_append, List.nil_append, zg270, zg277, zg283, zg284]
            try dsimp only [Qz_reachInside]
            have hfin : inR (rcF N z T f) N z T j r = (((Q151.1 || Q151.2.2.2.1 j) && !(alwT z T j 1)) || Q151.2.2.1 j, Q151.2) := by
              rw [in_d (by omega)]
              unfold doR
              rw [hQ151]
            rw [hfin]
            refine ⟨_, rfl, ?_, hR151⟩
            show _ = bZI _
            simp only [hb152, hb177, hb185, Bool.true_or, Bool.or_true, Bool.false_or, Bool.or_false, Bool.and_true, Bool.true_and, Bool.and_false, Bool.false_and, Bool.not_true, Bool.not_false]
            first
              | omega
              | (show _ = (1 : Int); omega)
              | (show _ = (0 : Int); omega)
        · have g181 := (neI (x := (Int32.ofInt 0)) (y := 0) h181 : ¬ ((Int32.ofInt 0) : Int32).toInt = (0 : Int32).toInt)
          have z0_ : (0 : Int32).toInt = 0 := rfl
          exfalso
          omega
      · have g177 := (neI (x := (fIC τ151 p1 284)) (y := 0) h177 : ¬ ((fIC τ151 p1 284) : Int32).toInt = (0 : Int32).toInt)
        have z0_ : (0 : Int32).toInt = 0 := rfl
        have hb177 : (Q151.2.2.2.1 j) = true := bZI_t (by omega)
        refine hB _ _ _ _ _ (fun m192 hm192 => ?_)
        dsimp only [ucgo, ucwp, ucsC, uqC, uoC, ctC, rfd, KX2_reachInside, KX2_reachInside_0, KX2_reachInside_96, KX2_reachInside_102, KX2_reachInside_111, KX2_reachInside_118, KX2_reachInside_122, KX2_reachInside_123, KX2_reachInside_124, KX2_reachInside_138, KX2_reachInside_150, KX2_reachInside_154, KX2_reachInside_158, KX2_reachInside_159, KX2_reachInside_160, KX2_reachInside_170, KX2_reachInside_174, KX2_reachInside_175, KX2_reachInside_187, KX2_reachInside_194, KX2_reachInside_198, KX2_reachInside_199, KX2_reachInside_200, KX2_reachInside_209, KX2_reachInside_216, KX2_reachInside_220, KX2_reachInside_221, KX2_reachInside_226, KX2_reachInside_234, KX2_reachInside_241, KX2_reachInside_245, KX2_reachInside_246, KX2_reachInside_247, KX2_reachInside_253, KX2_reachInside_259, KX2_reachInside_265, KX2_reachInside_274, KX2_reachInside_283, KX2_reachInside_287, KX2_reachInside_288, lkC, s1C, s2C, dlC, kyC, Nat.beq, Nat.ble, rcd, rno, rsw, Nat.reduceAdd, Nat.reduceBEq, Nat.reduceDiv, List.drop, List.take, List.reverse, List.reverseAux, Int.toNat, Option.toList, List.append, List.cons_append, List.nil_append, zg270, zg277, zg283, zg284]
        have c193 : (Int32.ofInt 1).toInt = 1 := by decide
        refine hB _ _ _ _ _ (fun m194 hm194 => ?_)
        dsimp only [ucgo, ucwp, ucsC, uqC, uoC, ctC, rfd, KX2_reachInside, KX2_reachInside_0, KX2_reachInside_96, KX2_reachInside_102, KX2_reachInside_111, KX2_reachInside_118, KX2_reachInside_122, KX2_reachInside_123, KX2_reachInside_124, KX2_reachInside_138, KX2_reachInside_150, KX2_reachInside_154, KX2_reachInside_158, KX2_reachInside_159, KX2_reachInside_160, KX2_reachInside_170, KX2_reachInside_174, KX2_reachInside_175, KX2_reachInside_187, KX2_reachInside_194, KX2_reachInside_198, KX2_reachInside_199, KX2_reachInside_200, KX2_reachInside_209, KX2_reachInside_216, KX2_reachInside_220, KX2_reachInside_221, KX2_reachInside_226, KX2_reachInside_234, KX2_reachInside_241, KX2_reachInside_245, KX2_reachInside_246, KX2_reachInside_247, KX2_reachInside_253, KX2_reachInside_259, KX2_reachInside_265, KX2_reachInside_274, KX2_reachInside_283, KX2_reachInside_287, KX2_reachInside_288, lkC, s1C, s2C, dlC, kyC, Nat.beq, Nat.ble, rcd, rno, rsw, Nat.reduceAdd, Nat.reduceBEq, Nat.reduceDiv, List.drop, List.take, List.reverse, List.reverseAux, Int.toNat, Option.toList, List.append, List.cons_append, List.nil_append, zg270, zg277, zg283, zg284]
        refine ⟨fun h195 => ?_, fun h195 => ?_⟩
        · have g195 := (eqI (x := (Int32.ofInt 1)) (y := 0) h195 : ((Int32.ofInt 1) : Int32).toInt = (0 : Int32).toInt)
          have z0_ : (0 : Int32).toInt = 0 := rfl
          exfalso
          omega
        · have g195 := (neI (x := (Int32.ofInt 1)) (y := 0) h195 : ¬ ((Int32.ofInt 1) : Int32).toInt = (0 : Int32).toInt)
          have z0_ : (0 : Int32).toInt = 0 := rfl
          refine hB _ _ _ _ _ (fun m196 hm196 => ?_)
          dsimp only [ucgo, ucwp, ucsC, uqC, uoC, ctC, rfd, KX2_reachInside, KX2_reachInside_0, KX2_reachInside_96, KX2_reachInside_102, KX2_reachInside_111, KX2_reachInside_118, KX2_reachInside_122, KX2_reachInside_123, KX2_reachInside_124, KX2_reachInside_138, KX2_reachInside_150, KX2_reachInside_154, KX2_reachInside_158, KX2_reachInside_159, KX2_reachInside_160, KX2_reachInside_170, KX2_reachInside_174, KX2_reachInside_175, KX2_reachInside_187, KX2_reachInside_194, KX2_reachInside_198, KX2_reachInside_199, KX2_reachInside_200, KX2_reachInside_209, KX2_reachInside_216, KX2_reachInside_220, KX2_reachInside_221, KX2_reachInside_226, KX2_reachInside_234, KX2_reachInside_241, KX2_reachInside_245, KX2_reachInside_246, KX2_reachInside_247, KX2_reachInside_253, KX2_reachInside_259, KX2_reachInside_265, KX2_reachInside_274, KX2_reachInside_283, KX2_reachInside_287, KX2_reachInside_288, lkC, s1C, s2C, dlC, kyC, Nat.beq, Nat.ble, rcd, rno, rsw, Nat.reduceAdd, Nat.reduceBEq, Nat.reduceDiv, List.drop, List.take, List.reverse, List.reverseAux, Int.toNat, Option.toList, List.append, List.cons_append, List.nil_append, zg270, zg277, zg283, zg284]
          have c197 : (Int32.ofInt 1).toInt = 1 := by decide
          intro w198 τ198 o198 q198
          obtain ⟨r198, rfl, hr198, rfl⟩ := q198 (N, E, A, B, V, z, T, ms, nm, j) ⟨_, _, rfl, hSs_151, hwf, hj, hp⟩
          rw [show ((Int32.ofInt 1) : Int32).toInt = 1 by omega] at hr198
          try dsimp only [Option.toList, List.cons_append, List.nil_append, s1C, s2C, dlC, kyC, Nat.beq, lkC, rcd, rno, rsw]
          refine ⟨fun h199 => ?_, fun h199 => ?_⟩
          · have g199 := (eqI (x := r198) (y := 0) h199 : (r198 : Int32).toInt = (0 : Int32).toInt)
            have z0_ : (0 : Int32).toInt = 0 := rfl
            have hb199 : (alwT z T j 1) = false := bZI_f (by omega)
            refine hB _ _ _ _ _ (fun m200 hm200 => ?_)
            dsimp only [ucgo, ucwp, ucsC, uqC, uoC, ctC, rfd, KX2_reachInside, KX2_reachInside_0, KX2_reachInside_96, KX2_reachInside_102, KX2_reachInside_111, KX2_reachInside_118, KX2_reachInside_122, KX2_reachInside_123, KX2_reachInside_124, KX2_reachInside_138, KX2_reachInside_150, KX2_reachInside_154, KX2_reachInside_158, KX2_reachInside_159, KX2_reachInside_160, KX2_reachInside_170, KX2_reachInside_174, KX2_reachInside_175, KX2_reachInside_187, KX2_reachInside_194, KX2_reachInside_198, KX2_reachInside_199, KX2_reachInside_200, KX2_reachInside_209, KX2_reachInside_216, KX2_reachInside_220, KX2_reachInside_221, KX2_reachInside_226, KX2_reachInside_234, KX2_reachInside_241, KX2_reachInside_245, KX2_reachInside_246, KX2_reachInside_247, KX2_reachInside_253, KX2_reachInside_259, KX2_reachInside_265, KX2_reachInside_274, KX2_reachInside_283, KX2_reachInside_287, KX2_reachInside_288, lkC, s1C, s2C, dlC, kyC, Nat.beq, Nat.ble, rcd, rno, rsw, Nat.reduceAdd, Nat.reduceBEq, Nat.reduceDiv, List.drop, List.take, List.reverse, List.reverseAux, Int.toNat, Option.toList, List.append, List.cons_append, List.nil_append, zg270, zg277, zg283, zg284]
            have c201 : (Int32.ofInt 1).toInt = 1 := by decide
            refine hB _ _ _ _ _ (fun m202 hm202 => ?_)
            dsimp only [ucgo, ucwp, ucsC, uqC, uoC, ctC, rfd, KX2_reachInside, KX2_reachInside_0, KX2_reachInside_96, KX2_reachInside_102, KX2_reachInside_111, KX2_reachInside_118, KX2_reachInside_122, KX2_reachInside_123, KX2_reachInside_124, KX2_reachInside_138, KX2_reachInside_150, KX2_reachInside_154, KX2_reachInside_158, KX2_reachInside_159, KX2_reachInside_160, KX2_reachInside_170, KX2_reachInside_174, KX2_reachInside_175, KX2_reachInside_187, KX2_reachInside_194, KX2_reachInside_198, KX2_reachInside_199, KX2_reachInside_200, KX2_reachInside_209, KX2_reachInside_216, KX2_reachInside_220, KX2_reachInside_221, KX2_reachInside_226, KX2_reachInside_234, KX2_reachInside_241, KX2_reachInside_245, KX2_reachInside_246, KX2_reachInside_247, KX2_reachInside_253, KX2_reachInside_259, KX2_reachInside_265, KX2_reachInside_274, KX2_reachInside_283, KX2_reachInside_287, KX2_reachInside_288, lkC, s1C, s2C, dlC, kyC, Nat.beq, Nat.ble, rcd, rno, rsw, Nat.reduceAdd, Nat.reduceBEq, Nat.reduceDiv, List.drop, List.take, List.reverse, List.reverseAux, Int.toNat, Option.toList, List.append, List.cons_append, List.nil_append, zg270, zg277, zg283, zg284]
            try dsimp only [Qz_reachInside]
            have hfin : inR (rcF N z T f) N z T j r = (((Q151.1 || Q151.2.2.2.1 j) && !(alwT z T j 1)) || Q151.2.2.1 j, Q151.2) := by
              rw [in_d (by omega)]
              unfold doR
              rw [hQ151]
            rw [hfin]
            refine ⟨_, rfl, ?_, hR151⟩
            show _ = bZI _
            simp only [hb152, hb177, hb199, Bool.true_or, Bool.or_true, Bool.false_or, Bool.or_false, Bool.and_true, Bool.true_and, Bool.and_false, Bool.false_and, Bool.not_true, Bool.not_false]
            first
              | omega
              | (show _ = (1 : Int); omega)
              | (show _ = (0 : Int); omega)
          · have g199 := (neI (x := r198) (y := 0) h199 : ¬ (r198 : Int32).toInt = (0 : Int32).toInt)
            have z0_ : (0 : Int32).toInt = 0 := rfl
            have hb199 : (alwT z T j 1) = true := bZI_t (by omega)
            refine hB _ _ _ _ _ (fun m203 hm203 => ?_)
            dsimp only [ucgo, ucwp, ucsC, uqC, uoC, ctC, rfd, KX2_reachInside, KX2_reachInside_0, KX2_reachInside_96, KX2_reachInside_102, KX2_reachInside_111, KX2_reachInside_118, KX2_reachInside_122, KX2_reachInside_123, KX2_reachInside_124, KX2_reachInside_138, KX2_reachInside_150, KX2_reachInside_154, KX2_reachInside_158, KX2_reachInside_159, KX2_reachInside_160, KX2_reachInside_170, KX2_reachInside_174, KX2_reachInside_175, KX2_reachInside_187, KX2_reachInside_194, KX2_reachInside_198, KX2_reachInside_199, KX2_reachInside_200, KX2_reachInside_209, KX2_reachInside_216, KX2_reachInside_220, KX2_reachInside_221, KX2_reachInside_226, KX2_reachInside_234, KX2_reachInside_241, KX2_reachInside_245, KX2_reachInside_246, KX2_reachInside_247, KX2_reachInside_253, KX2_reachInside_259, KX2_reachInside_265, KX2_reachInside_274, KX2_reachInside_283, KX2_reachInside_287, KX2_reachInside_288, lkC, s1C, s2C, dlC, kyC, Nat.beq, Nat.ble, rcd, rno, rsw, Nat.reduceAdd, Nat.reduceBEq, Nat.reduceDiv, List.drop, List.take, List.reverse, List.reverseAux, Int.toNat, Option.toList, List.append, List.cons_append, List.nil_append, zg270, zg277, zg283, zg284]
            intro a204 e204 ob204
            cases e204
            have f205 : (fIC τ151 p1 283).toInt = bZI (Q151.2.2.1 j) := by rw [hp]; exact (hR151.1 j hj).2.1
            refine ⟨fun h206 => ?_, fun h206 => ?_⟩
            · have g206 := (eqI (x := (fIC τ151 p1 283)) (y := 0) h206 : ((fIC τ151 p1 283) : Int32).toInt = (0 : Int32).toInt)
              have z0_ : (0 : Int32).toInt = 0 := rfl
              have hb206 : (Q151.2.2.1 j) = false := bZI_f (by omega)
              refine hB _ _ _ _ _ (fun m207 hm207 => ?_)
              dsimp only [ucgo, ucwp, ucsC, uqC, uoC, ctC, rfd, KX2_reachInside, KX2_reachInside_0, KX2_reachInside_96, KX2_reachInside_102, KX2_reachInside_111, KX2_reachInside_118, KX2_reachInside_122, KX2_reachInside_123, KX2_reachInside_124, KX2_reachInside_138, KX2_reachInside_150, KX2_reachInside_154, KX2_reachInside_158, KX2_reachInside_159, KX2_reachInside_160, KX2_reachInside_170, KX2_reachInside_174, KX2_reachInside_175, KX2_reachInside_187, KX2_reachInside_194, KX2_reachInside_198, KX2_reachInside_199, KX2_reachInside_200, KX2_reachInside_209, KX2_reachInside_216, KX2_reachInside_220, KX2_reachInside_221, KX2_reachInside_226, KX2_reachInside_234, KX2_reachInside_241, KX2_reachInside_245, KX2_reachInside_246, KX2_reachInside_247, KX2_reachInside_253, KX2_reachInside_259, KX2_reachInside_265, KX2_reachInside_274, KX2_reachInside_283, KX2_reachInside_287, KX2_reachInside_288, lkC, s1C, s2C, dlC, kyC, Nat.beq, Nat.ble, rcd, rno, rsw, Nat.reduceAdd, Nat.reduceBEq, Nat.reduceDiv, List.drop, List.take, List.reverse, List.reverseAux, Int.toNat, Option.toList, List.append, List.cons_append, List.nil_append, zg270, zg277, zg283, zg284]
              have c208 : (Int32.ofInt 0).toInt = 0 := by decide
              refine hB _ _ _ _ _ (fun m209 hm209 => ?_)
              dsimp only [ucgo, ucwp, ucsC, uqC, uoC, ctC, rfd, KX2_reachInside, KX2_reachInside_0, KX2_reachInside_96, KX2_reachInside_102, KX2_reachInside_111, KX2_reachInside_118, KX2_reachInside_122, KX2_reachInside_123, KX2_reachInside_124, KX2_reachInside_138, KX2_reachInside_150, KX2_reachInside_154, KX2_reachInside_158, KX2_reachInside_159, KX2_reachInside_160, KX2_reachInside_170, KX2_reachInside_174, KX2_reachInside_175, KX2_reachInside_187, KX2_reachInside_194, KX2_reachInside_198, KX2_reachInside_199, KX2_reachInside_200, KX2_reachInside_209, KX2_reachInside_216, KX2_reachInside_220, KX2_reachInside_221, KX2_reachInside_226, KX2_reachInside_234, KX2_reachInside_241, KX2_reachInside_245, KX2_reachInside_246, KX2_reachInside_247, KX2_reachInside_253, KX2_reachInside_259, KX2_reachInside_265, KX2_reachInside_274, KX2_reachInside_283, KX2_reachInside_287, KX2_reachInside_288, lkC, s1C, s2C, dlC, kyC, Nat.beq, Nat.ble, rcd, rno, rsw, Nat.reduceAdd, Nat.reduceBEq, Nat.reduceDiv, List.drop, List.take, List.reverse, List.reverseAux, Int.toNat, Option.toList, List.append, List.cons_append, List.nil_append, zg270, zg277, zg283, zg284]
              try dsimp only [Qz_reachInside]
              have hfin : inR (rcF N z T f) N z T j r = (((Q151.1 || Q151.2.2.2.1 j) && !(alwT z T j 1)) || Q151.2.2.1 j, Q151.2) := by
                rw [in_d (by omega)]
                unfold doR
                rw [hQ151]
              rw [hfin]
              refine ⟨_, rfl, ?_, hR151⟩
              show _ = bZI _
              simp only [hb152, hb177, hb199, hb206, Bool.true_or, Bool.or_true, Bool.false_or, Bool.or_false, Bool.and_true, Bool.true_and, Bool.and_false, Bool.false_and, Bool.not_true, Bool.not_false]
              first
                | omega
                | (show _ = (1 : Int); omega)
                | (show _ = (0 : Int); omega)
            · have g206 := (neI (x := (fIC τ151 p1 283)) (y := 0) h206 : ¬ ((fIC τ151 p1 283) : Int32).toInt = (0 : Int32).toInt)
              have z0_ : (0 : Int32).toInt = 0 := rfl
              have hb206 : (Q151.2.2.1 j) = true := bZI_t (by omega)
              refine hB _ _ _ _ _ (fun m210 hm210 => ?_)
              dsimp only [ucgo, ucwp, ucsC, uqC, uoC, ctC, rfd, KX2_reachInside, KX2_reachInside_0, KX2_reachInside_96, KX2_reachInside_102, KX2_reachInside_111, KX2_reachInside_118, KX2_reachInside_122, KX2_reachInside_123, KX2_reachInside_124, KX2_reachInside_138, KX2_reachInside_150, KX2_reachInside_154, KX2_reachInside_158, KX2_reachInside_159, KX2_reachInside_160, KX2_reachInside_170, KX2_reachInside_174, KX2_reachInside_175, KX2_reachInside_187, KX2_reachInside_194, KX2_reachInside_198, KX2_reachInside_199, KX2_reachInside_200, KX2_reachInside_209, KX2_reachInside_216, KX2_reachInside_220, KX2_reachInside_221, KX2_reachInside_226, KX2_reachInside_234, KX2_reachInside_241, KX2_reachInside_245, KX2_reachInside_246, KX2_reachInside_247, KX2_reachInside_253, KX2_reachInside_259, KX2_reachInside_265, KX2_reachInside_274, KX2_reachInside_283, KX2_reachInside_287, KX2_reachInside_288, lkC, s1C, s2C, dlC, kyC, Nat.beq, Nat.ble, rcd, rno, rsw, Nat.reduceAdd, Nat.reduceBEq, Nat.reduceDiv, List.drop, List.take, List.reverse, List.reverseAux, Int.toNat, Option.toList, List.append, List.cons_append, List.nil_append, zg270, zg277, zg283, zg284]
              have c211 : (Int32.ofInt 1).toInt = 1 := by decide
              refine hB _ _ _ _ _ (fun m212 hm212 => ?_)
              dsimp only [ucgo, ucwp, ucsC, uqC, uoC, ctC, rfd, KX2_reachInside, KX2_reachInside_0, KX2_reachInside_96, KX2_reachInside_102, KX2_reachInside_111, KX2_reachInside_118, KX2_reachInside_122, KX2_reachInside_123, KX2_reachInside_124, KX2_reachInside_138, KX2_reachInside_150, KX2_reachInside_154, KX2_reachInside_158, KX2_reachInside_159, KX2_reachInside_160, KX2_reachInside_170, KX2_reachInside_174, KX2_reachInside_175, KX2_reachInside_187, KX2_reachInside_194, KX2_reachInside_198, KX2_reachInside_199, KX2_reachInside_200, KX2_reachInside_209, KX2_reachInside_216, KX2_reachInside_220, KX2_reachInside_221, KX2_reachInside_226, KX2_reachInside_234, KX2_reachInside_241, KX2_reachInside_245, KX2_reachInside_246, KX2_reachInside_247, KX2_reachInside_253, KX2_reachInside_259, KX2_reachInside_265, KX2_reachInside_274, KX2_reachInside_283, KX2_reachInside_287, KX2_reachInside_288, lkC, s1C, s2C, dlC, kyC, Nat.beq, Nat.ble, rcd, rno, rsw, Nat.reduceAdd, Nat.reduceBEq, Nat.reduceDiv, List.drop, List.take, List.reverse, List.reverseAux, Int.toNat, Option.toList, List.append, List.cons_append, List.nil_append, zg270, zg277, zg283, zg284]
              try dsimp only [Qz_reachInside]
              have hfin : inR (rcF N z T f) N z T j r = (((Q151.1 || Q151.2.2.2.1 j) && !(alwT z T j 1)) || Q151.2.2.1 j, Q151.2) := by
                rw [in_d (by omega)]
                unfold doR
                rw [hQ151]
              rw [hfin]
              refine ⟨_, rfl, ?_, hR151⟩
              show _ = bZI _
              simp only [hb152, hb177, hb199, hb206, Bool.true_or, Bool.or_true, Bool.false_or, Bool.or_false, Bool.and_true, Bool.true_and, Bool.and_false, Bool.false_and, Bool.not_true, Bool.not_false]
              first
                | omega
                | (show _ = (1 : Int); omega)
                | (show _ = (0 : Int); omega)
  have g148 : ¬ ((fIC σ p1 270) : Int32).toInt = 59 := h148
  refine ⟨fun h213 => ?_, fun h213 => ?_⟩
  · have g213 : ((fIC σ p1 270) : Int32).toInt = 60 := h213
    refine hB _ _ _ _ _ (fun m214 hm214 => ?_)
    dsimp only [ucgo, ucwp, ucsC, uqC, uoC, ctC, rfd, KX2_reachInside, KX2_reachInside_0, KX2_reachInside_96, KX2_reachInside_102, KX2_reachInside_111, KX2_reachInside_118, KX2_reachInside_122, KX2_reachInside_123, KX2_reachInside_124, KX2_reachInside_138, KX2_reachInside_150, KX2_reachInside_154, KX2_reachInside_158, KX2_reachInside_159, KX2_reachInside_160, KX2_reachInside_170, KX2_reachInside_174, KX2_reachInside_175, KX2_reachInside_187, KX2_reachInside_194, KX2_reachInside_198, KX2_reachInside_199, KX2_reachInside_200, KX2_reachInside_209, KX2_reachInside_216, KX2_reachInside_220, KX2_reachInside_221, KX2_reachInside_226, KX2_reachInside_234, KX2_reachInside_241, KX2_reachInside_245, KX2_reachInside_246, KX2_reachInside_247, KX2_reachInside_253, KX2_reachInside_259, KX2_reachInside_265, KX2_reachInside_274, KX2_reachInside_283, KX2_reachInside_287, KX2_reachInside_288, lkC, s1C, s2C, dlC, kyC, Nat.beq, Nat.ble, rcd, rno, rsw, Nat.reduceAdd, Nat.reduceBEq, Nat.reduceDiv, List.drop, List.take, List.reverse, List.reverseAux, Int.toNat, Option.toList, List.append, List.cons_append, List.nil_append, zg270, zg277, zg283, zg284]
    have c215 : (Int32.ofInt 0).toInt = 0 := by decide
    intro w216 τ216 o216 q216
    obtain ⟨r216, rfl, hr216, rfl⟩ := q216 (N, E, A, B, V, z, T, ms, nm, j) ⟨_, _, rfl, hSs, hwf, hj, hp⟩
    rw [show ((Int32.ofInt 0) : Int32).toInt = 0 by omega] at hr216
    try dsimp only [Option.toList, List.cons_append, List.nil_append, s1C, s2C, dlC, kyC, Nat.beq, lkC, rcd, rno, rsw]
    refine ⟨fun h217 => ?_, fun h217 => ?_⟩
    · have g217 := (neI (x := r216) (y := 0) h217 : ¬ (r216 : Int32).toInt = (0 : Int32).toInt)
      have z0_ : (0 : Int32).toInt = 0 := rfl
      have hb217 : (alwT z T j 0) = true := bZI_t (by omega)
      refine hB _ _ _ _ _ (fun m218 hm218 => ?_)
      dsimp only [ucgo, ucwp, ucsC, uqC, uoC, ctC, rfd, KX2_reachInside, KX2_reachInside_0, KX2_reachInside_96, KX2_reachInside_102, KX2_reachInside_111, KX2_reachInside_118, KX2_reachInside_122, KX2_reachInside_123, KX2_reachInside_124, KX2_reachInside_138, KX2_reachInside_150, KX2_reachInside_154, KX2_reachInside_158, KX2_reachInside_159, KX2_reachInside_160, KX2_reachInside_170, KX2_reachInside_174, KX2_reachInside_175, KX2_reachInside_187, KX2_reachInside_194, KX2_reachInside_198, KX2_reachInside_199, KX2_reachInside_200, KX2_reachInside_209, KX2_reachInside_216, KX2_reachInside_220, KX2_reachInside_221, KX2_reachInside_226, KX2_reachInside_234, KX2_reachInside_241, KX2_reachInside_245, KX2_reachInside_246, KX2_reachInside_247, KX2_reachInside_253, KX2_reachInside_259, KX2_reachInside_265, KX2_reachInside_274, KX2_reachInside_283, KX2_reachInside_287, KX2_reachInside_288, lkC, s1C, s2C, dlC, kyC, Nat.beq, Nat.ble, rcd, rno, rsw, Nat.reduceAdd, Nat.reduceBEq, Nat.reduceDiv, List.drop, List.take, List.reverse, List.reverseAux, Int.toNat, Option.toList, List.append, List.cons_append, List.nil_append, zg270, zg277, zg283, zg284]
      have c219 : (Int32.ofInt 0).toInt = 0 := by decide
      refine hB _ _ _ _ _ (fun m220 hm220 => ?_)
      dsimp only [ucgo, ucwp, ucsC, uqC, uoC, ctC, rfd, KX2_reachInside, KX2_reachInside_0, KX2_reachInside_96, KX2_reachInside_102, KX2_reachInside_111, KX2_reachInside_118, KX2_reachInside_122, KX2_reachInside_123, KX2_reachInside_124, KX2_reachInside_138, KX2_reachInside_150, KX2_reachInside_154, KX2_reachInside_158, KX2_reachInside_159, KX2_reachInside_160, KX2_reachInside_170, KX2_reachInside_174, KX2_reachInside_175, KX2_reachInside_187, KX2_reachInside_194, KX2_reachInside_198, KX2_reachInside_199, KX2_reachInside_200, KX2_reachInside_209, KX2_reachInside_216, KX2_reachInside_220, KX2_reachInside_221, KX2_reachInside_226, KX2_reachInside_234, KX2_reachInside_241, KX2_reachInside_245, KX2_reachInside_246, KX2_reachInside_247, KX2_reachInside_253, KX2_reachInside_259, KX2_reachInside_265, KX2_reachInside_274, KX2_reachInside_283, KX2_reachInside_287, KX2_reachInside_288, lkC, s1C, s2C, dlC, kyC, Nat.beq, Nat.ble, rcd, rno, rsw, Nat.reduceAdd, Nat.reduceBEq, Nat.reduceDiv, List.drop, List.take, List.reverse, List.reverseAux, Int.toNat, Option.toList, List.append, List.cons_append, List.nil_append, zg270, zg277, zg283, zg284]
      intro w221 τ221 o221 q221
      obtain ⟨v221, rfl, hv221, hR221⟩ := q221 (N, E, A, B, V, z, T, ms, nm, j, r, false, f) ⟨_, _, rfl, hSs, hPf, hTg, ⟨hwf, hup, hBi⟩, hj, hp, hR, (by first | omega | (show _ = bZI true; rw [show bZI true = 1 from rfl]; omega) | (show _ = bZI false; rw [show bZI false = 0 from rfl]; omega)), (by have := hup j hj; omega)⟩
      obtain ⟨Q221, hQ221⟩ : ∃ q, bdR (rcF N z T f) z j false r = q := ⟨_, rfl⟩
      rw [hQ221] at hv221 hR221
      have hF221 : FrE [217, 218, 282, 283, 284] σ τ221 := FrE.mo o221.2 rfl
      have hSs_221 := SsC.fr hSs hF221 rfl
      have hPf_221 := PfC.fr hPf hF221 rfl
      have hTg_221 := TgC.fr hTg hF221 rfl
      have op_221 : SlC A B τ221 z j p1 ∧ p1 < cnC τ221 := by rw [hp]; exact hSs_221.1 j hj
      try dsimp only [Option.toList, List.cons_append, List.nil_append, s1C, s2C, dlC, kyC, Nat.beq, lkC, rcd, rno, rsw]
      have c222 : (Int32.ofInt 1).toInt = 1 := by decide
      intro w223 τ223 o223 q223
      obtain ⟨r223, rfl, hr223, rfl⟩ := q223 (N, E, A, B, V, z, T, ms, nm, j) ⟨_, _, rfl, hSs_221, hwf, hj, hp⟩
      rw [show ((Int32.ofInt 1) : Int32).toInt = 1 by omega] at hr223
      try dsimp only [Option.toList, List.cons_append, List.nil_append, s1C, s2C, dlC, kyC, Nat.beq, lkC, rcd, rno, rsw]
      refine ⟨fun h224 => ?_, fun h224 => ?_⟩
      · have g224 := (eqI (x := r223) (y := 0) h224 : (r223 : Int32).toInt = (0 : Int32).toInt)
        have z0_ : (0 : Int32).toInt = 0 := rfl
        have hb224 : (alwT z T j 1) = false := bZI_f (by omega)
        refine hB _ _ _ _ _ (fun m225 hm225 => ?_)
        dsimp only [ucgo, ucwp, ucsC, uqC, uoC, ctC, rfd, KX2_reachInside, KX2_reachInside_0, KX2_reachInside_96, KX2_reachInside_102, KX2_reachInside_111, KX2_reachInside_118, KX2_reachInside_122, KX2_reachInside_123, KX2_reachInside_124, KX2_reachInside_138, KX2_reachInside_150, KX2_reachInside_154, KX2_reachInside_158, KX2_reachInside_159, KX2_reachInside_160, KX2_reachInside_170, KX2_reachInside_174, KX2_reachInside_175, KX2_reachInside_187, KX2_reachInside_194, KX2_reachInside_198, KX2_reachInside_199, KX2_reachInside_200, KX2_reachInside_209, KX2_reachInside_216, KX2_reachInside_220, KX2_reachInside_221, KX2_reachInside_226, KX2_reachInside_234, KX2_reachInside_241, KX2_reachInside_245, KX2_reachInside_246, KX2_reachInside_247, KX2_reachInside_253, KX2_reachInside_259, KX2_reachInside_265, KX2_reachInside_274, KX2_reachInside_283, KX2_reachInside_287, KX2_reachInside_288, lkC, s1C, s2C, dlC, kyC, Nat.beq, Nat.ble, rcd, rno, rsw, Nat.reduceAdd, Nat.reduceBEq, Nat.reduceDiv, List.drop, List.take, List.reverse, List.reverseAux, Int.toNat, Option.toList, List.append, List.cons_append, List.nil_append, zg270, zg277, zg283, zg284]
        have c226 : (Int32.ofInt 1).toInt = 1 := by decide
        refine hB _ _ _ _ _ (fun m227 hm227 => ?_)
        dsimp only [ucgo, ucwp, ucsC, uqC, uoC, ctC, rfd, KX2_reachInside, KX2_reachInside_0, KX2_reachInside_96, KX2_reachInside_102, KX2_reachInside_111, KX2_reachInside_118, KX2_reachInside_122, KX2_reachInside_123, KX2_reachInside_124, KX2_reachInside_138, KX2_reachInside_150, KX2_reachInside_154, KX2_reachInside_158, KX2_reachInside_159, KX2_reachInside_160, KX2_reachInside_170, KX2_reachInside_174, KX2_reachInside_175, KX2_reachInside_187, KX2_reachInside_194, KX2_reachInside_198, KX2_reachInside_199, KX2_reachInside_200, KX2_reachInside_209, KX2_reachInside_216, KX2_reachInside_220, KX2_reachInside_221, KX2_reachInside_226, KX2_reachInside_234, KX2_reachInside_241, KX2_reachInside_245, KX2_reachInside_246, KX2_reachInside_247, KX2_reachInside_253, KX2_reachInside_259, KX2_reachInside_265, KX2_reachInside_274, KX2_reachInside_283, KX2_reachInside_287, KX2_reachInside_288, lkC, s1C, s2C, dlC, kyC, Nat.beq, Nat.ble, rcd, rno, rsw, Nat.reduceAdd, Nat.reduceBEq, Nat.reduceDiv, List.drop, List.take, List.reverse, List.reverseAux, Int.toNat, Option.toList, List.append, List.cons_append, List.nil_append, zg270, zg277, zg283, zg284]
        try dsimp only [Qz_reachInside]
        have hfin : inR (rcF N z T f) N z T j r = (!(alwT z T j 1) || Q221.2.2.1 j, Q221.2) := by
          rw [in_w (by omega)]
          unfold whR
          rw [show (!(alwT z T j 0)) = false by rw [hb217]; rfl, hQ221]
        rw [hfin]
        refine ⟨_, rfl, ?_, hR221⟩
        show _ = bZI _
        simp only [hb217, hb224, Bool.true_or, Bool.or_true, Bool.false_or, Bool.or_false, Bool.and_true, Bool.true_and, Bool.and_false, Bool.false_and, Bool.not_true, Bool.not_false]
        first
          | omega
          | (show _ = (1 : Int); omega)
          | (show _ = (0 : Int); omega)
      · have g224 := (neI (x := r223) (y := 0) h224 : ¬ (r223 : Int32).toInt = (0 : Int32).toInt)
        have z0_ : (0 : Int32).toInt = 0 := rfl
        have hb224 : (alwT z T j 1) = true := bZI_t (by omega)
        refine hB _ _ _ _ _ (fun m228 hm228 => ?_)
        dsimp only [ucgo, ucwp, ucsC, uqC, uoC, ctC, rfd, KX2_reachInside, KX2_reachInside_0, KX2_reachInside_96, KX2_reachInside_102, KX2_reachInside_111, KX2_reachInside_118, KX2_reachInside_122, KX2_reachInside_123, KX2_reachInside_124, KX2_reachInside_138, KX2_reachInside_150, KX2_reachInside_154, KX2_reachInside_158, KX2_reachInside_159, KX2_reachInside_160, KX2_reachInside_170, KX2_reachInside_174, KX2_reachInside_175, KX2_reachInside_187, KX2_reachInside_194, KX2_reachInside_198, KX2_reachInside_199, KX2_reachInside_200, KX2_reachInside_209, KX2_reachInside_216, KX2_reachInside_220, KX2_reachInside_221, KX2_reachInside_226, KX2_reachInside_234, KX2_reachInside_241, KX2_reachInside_245, KX2_reachInside_246, KX2_reachInside_247, KX2_reachInside_253, KX2_reachInside_259, KX2_reachInside_265, KX2_reachInside_274, KX2_reachInside_283, KX2_reachInside_287, KX2_reachInside_288, lkC, s1C, s2C, dlC, kyC, Nat.beq, Nat.ble, rcd, rno, rsw, Nat.reduceAdd, Nat.reduceBEq, Nat.reduceDiv, List.drop, List.take, List.reverse, List.reverseAux, Int.toNat, Option.toList, List.append, List.cons_append, List.nil_append, zg270, zg277, zg283, zg284]
        intro a229 e229 ob229
        cases e229
        have f230 : (fIC τ221 p1 283).toInt = bZI (Q221.2.2.1 j) := by rw [hp]; exact (hR221.1 j hj).2.1
        refine ⟨fun h231 => ?_, fun h231 => ?_⟩
        · have g231 := (eqI (x := (fIC τ221 p1 283)) (y := 0) h231 : ((fIC τ221 p1 283) : Int32).toInt = (0 : Int32).toInt)
          have z0_ : (0 : Int32).toInt = 0 := rfl
          have hb231 : (Q221.2.2.1 j) = false := bZI_f (by omega)
          refine hB _ _ _ _ _ (fun m232 hm232 => ?_)
          dsimp only [ucgo, ucwp, ucsC, uqC, uoC, ctC, rfd, KX2_reachInside, KX2_reachInside_0, KX2_reachInside_96, KX2_reachInside_102, KX2_reachInside_111, KX2_reachInside_118, KX2_reachInside_122, KX2_reachInside_123, KX2_reachInside_124, KX2_reachInside_138, KX2_reachInside_150, KX2_reachInside_154, KX2_reachInside_158, KX2_reachInside_159, KX2_reachInside_160, KX2_reachInside_170, KX2_reachInside_174, KX2_reachInside_175, KX2_reachInside_187, KX2_reachInside_194, KX2_reachInside_198, KX2_reachInside_199, KX2_reachInside_200, KX2_reachInside_209, KX2_reachInside_216, KX2_reachInside_220, KX2_reachInside_221, KX2_reachInside_226, KX2_reachInside_234, KX2_reachInside_241, KX2_reachInside_245, KX2_reachInside_246, KX2_reachInside_247, KX2_reachInside_253, KX2_reachInside_259, KX2_reachInside_265, KX2_reachInside_274, KX2_reachInside_283, KX2_reachInside_287, KX2_reachInside_288, lkC, s1C, s2C, dlC, kyC, Nat.beq, Nat.ble, rcd, rno, rsw, Nat.reduceAdd, Nat.reduceBEq, Nat.reduceDiv, List.drop, List.take, List.reverse, List.reverseAux, Int.toNat, Option.toList, List.append, List.cons_append, List.nil_append, zg270, zg277, zg283, zg284]
          have c233 : (Int32.ofInt 0).toInt = 0 := by decide
          refine hB _ _ _ _ _ (fun m234 hm234 => ?_)
          dsimp only [ucgo, ucwp, ucsC, uqC, uoC, ctC, rfd, KX2_reachInside, KX2_reachInside_0, KX2_reachInside_96, KX2_reachInside_102, KX2_reachInside_111, KX2_reachInside_118, KX2_reachInside_122, KX2_reachInside_123, KX2_reachInside_124, KX2_reachInside_138, KX2_reachInside_150, KX2_reachInside_154, KX2_reachInside_158, KX2_reachInside_159, KX2_reachInside_160, KX2_reachInside_170, KX2_reachInside_174, KX2_reachInside_175, KX2_reachInside_187, KX2_reachInside_194, KX2_reachInside_198, KX2_reachInside_199, KX2_reachInside_200, KX2_reachInside_209, KX2_reachInside_216, KX2_reachInside_220, KX2_reachInside_221, KX2_reachInside_226, KX2_reachInside_234, KX2_reachInside_241, KX2_reachInside_245, KX2_reachInside_246, KX2_reachInside_247, KX2_reachInside_253, KX2_reachInside_259, KX2_reachInside_265, KX2_reachInside_274, KX2_reachInside_283, KX2_reachInside_287, KX2_reachInside_288, lkC, s1C, s2C, dlC, kyC, Nat.beq, Nat.ble, rcd, rno, rsw, Nat.reduceAdd, Nat.reduceBEq, Nat.reduceDiv, List.drop, List.take, List.reverse, List.reverseAux, Int.toNat, Option.toList, List.append, List.cons_append, List.nil_append, zg270, zg277, zg283, zg284]
          try dsimp only [Qz_reachInside]
          have hfin : inR (rcF N z T f) N z T j r = (!(alwT z T j 1) || Q221.2.2.1 j, Q221.2) := by
            rw [in_w (by omega)]
            unfold whR
            rw [show (!(alwT z T j 0)) = false by rw [hb217]; rfl, hQ221]
          rw [hfin]
          refine ⟨_, rfl, ?_, hR221⟩
          show _ = bZI _
          simp only [hb217, hb224, hb231, Bool.true_or, Bool.or_true, Bool.false_or, Bool.or_false, Bool.and_true, Bool.true_and, Bool.and_false, Bool.false_and, Bool.not_true, Bool.not_false]
          first
            | omega
            | (show _ = (1 : Int); omega)
            | (show _ = (0 : Int); omega)
        · have g231 := (neI (x := (fIC τ221 p1 283)) (y := 0) h231 : ¬ ((fIC τ221 p1 283) : Int32).toInt = (0 : Int32).toInt)
          have z0_ : (0 : Int32).toInt = 0 := rfl
          have hb231 : (Q221.2.2.1 j) = true := bZI_t (by omega)
          refine hB _ _ _ _ _ (fun m235 hm235 => ?_)
          dsimp only [ucgo, ucwp, ucsC, uqC, uoC, ctC, rfd, KX2_reachInside, KX2_reachInside_0, KX2_reachInside_96, KX2_reachInside_102, KX2_reachInside_111, KX2_reachInside_118, KX2_reachInside_122, KX2_reachInside_123, KX2_reachInside_124, KX2_reachInside_138, KX2_reachInside_150, KX2_reachInside_154, KX2_reachInside_158, KX2_reachInside_159, KX2_reachInside_160, KX2_reachInside_170, KX2_reachInside_174, KX2_reachInside_175, KX2_reachInside_187, KX2_reachInside_194, KX2_reachInside_198, KX2_reachInside_199, KX2_reachInside_200, KX2_reachInside_209, KX2_reachInside_216, KX2_reachInside_220, KX2_reachInside_221, KX2_reachInside_226, KX2_reachInside_234, KX2_reachInside_241, KX2_reachInside_245, KX2_reachInside_246, KX2_reachInside_247, KX2_reachInside_253, KX2_reachInside_259, KX2_reachInside_265, KX2_reachInside_274, KX2_reachInside_283, KX2_reachInside_287, KX2_reachInside_288, lkC, s1C, s2C, dlC, kyC, Nat.beq, Nat.ble, rcd, rno, rsw, Nat.reduceAdd, Nat.reduceBEq, Nat.reduceDiv, List.drop, List.take, List.reverse, List.reverseAux, Int.toNat, Option.toList, List.append, List.cons_append, List.nil_append, zg270, zg277, zg283, zg284]
          have c236 : (Int32.ofInt 1).toInt = 1 := by decide
          refine hB _ _ _ _ _ (fun m237 hm237 => ?_)
          dsimp only [ucgo, ucwp, ucsC, uqC, uoC, ctC, rfd, KX2_reachInside, KX2_reachInside_0, KX2_reachInside_96, KX2_reachInside_102, KX2_reachInside_111, KX2_reachInside_118, KX2_reachInside_122, KX2_reachInside_123, KX2_reachInside_124, KX2_reachInside_138, KX2_reachInside_150, KX2_reachInside_154, KX2_reachInside_158, KX2_reachInside_159, KX2_reachInside_160, KX2_reachInside_170, KX2_reachInside_174, KX2_reachInside_175, KX2_reachInside_187, KX2_reachInside_194, KX2_reachInside_198, KX2_reachInside_199, KX2_reachInside_200, KX2_reachInside_209, KX2_reachInside_216, KX2_reachInside_220, KX2_reachInside_221, KX2_reachInside_226, KX2_reachInside_234, KX2_reachInside_241, KX2_reachInside_245, KX2_reachInside_246, KX2_reachInside_247, KX2_reachInside_253, KX2_reachInside_259, KX2_reachInside_265, KX2_reachInside_274, KX2_reachInside_283, KX2_reachInside_287, KX2_reachInside_288, lkC, s1C, s2C, dlC, kyC, Nat.beq, Nat.ble, rcd, rno, rsw, Nat.reduceAdd, Nat.reduceBEq, Nat.reduceDiv, List.drop, List.take, List.reverse, List.reverseAux, Int.toNat, Option.toList, List.append, List.cons_append, List.nil_append, zg270, zg277, zg283, zg284]
          try dsimp only [Qz_reachInside]
          have hfin : inR (rcF N z T f) N z T j r = (!(alwT z T j 1) || Q221.2.2.1 j, Q221.2) := by
            rw [in_w (by omega)]
            unfold whR
            rw [show (!(alwT z T j 0)) = false by rw [hb217]; rfl, hQ221]
          rw [hfin]
          refine ⟨_, rfl, ?_, hR221⟩
          show _ = bZI _
          simp only [hb217, hb224, hb231, Bool.true_or, Bool.or_true, Bool.false_or, Bool.or_false, Bool.and_true, Bool.true_and, Bool.and_false, Bool.false_and, Bool.not_true, Bool.not_false]
          first
            | omega
            | (show _ = (1 : Int); omega)
            | (show _ = (0 : Int); omega)
    · have g217 := (eqI (x := r216) (y := 0) h217 : (r216 : Int32).toInt = (0 : Int32).toInt)
      have z0_ : (0 : Int32).toInt = 0 := rfl
      have hb217 : (alwT z T j 0) = false := bZI_f (by omega)
      refine hB _ _ _ _ _ (fun m238 hm238 => ?_)
      dsimp only [ucgo, ucwp, ucsC, uqC, uoC, ctC, rfd, KX2_reachInside, KX2_reachInside_0, KX2_reachInside_96, KX2_reachInside_102, KX2_reachInside_111, KX2_reachInside_118, KX2_reachInside_122, KX2_reachInside_123, KX2_reachInside_124, KX2_reachInside_138, KX2_reachInside_150, KX2_reachInside_154, KX2_reachInside_158, KX2_reachInside_159, KX2_reachInside_160, KX2_reachInside_170, KX2_reachInside_174, KX2_reachInside_175, KX2_reachInside_187, KX2_reachInside_194, KX2_reachInside_198, KX2_reachInside_199, KX2_reachInside_200, KX2_reachInside_209, KX2_reachInside_216, KX2_reachInside_220, KX2_reachInside_221, KX2_reachInside_226, KX2_reachInside_234, KX2_reachInside_241, KX2_reachInside_245, KX2_reachInside_246, KX2_reachInside_247, KX2_reachInside_253, KX2_reachInside_259, KX2_reachInside_265, KX2_reachInside_274, KX2_reachInside_283, KX2_reachInside_287, KX2_reachInside_288, lkC, s1C, s2C, dlC, kyC, Nat.beq, Nat.ble, rcd, rno, rsw, Nat.reduceAdd, Nat.reduceBEq, Nat.reduceDiv, List.drop, List.take, List.reverse, List.reverseAux, Int.toNat, Option.toList, List.append, List.cons_append, List.nil_append, zg270, zg277, zg283, zg284]
      have c239 : (Int32.ofInt 1).toInt = 1 := by decide
      refine hB _ _ _ _ _ (fun m240 hm240 => ?_)
      dsimp only [ucgo, ucwp, ucsC, uqC, uoC, ctC, rfd, KX2_reachInside, KX2_reachInside_0, KX2_reachInside_96, KX2_reachInside_102, KX2_reachInside_111, KX2_reachInside_118, KX2_reachInside_122, KX2_reachInside_123, KX2_reachInside_124, KX2_reachInside_138, KX2_reachInside_150, KX2_reachInside_154, KX2_reachInside_158, KX2_reachInside_159, KX2_reachInside_160, KX2_reachInside_170, KX2_reachInside_174, KX2_reachInside_175, KX2_reachInside_187, KX2_reachInside_194, KX2_reachInside_198, KX2_reachInside_199, KX2_reachInside_200, KX2_reachInside_209, KX2_reachInside_216, KX2_reachInside_220, KX2_reachInside_221, KX2_reachInside_226, KX2_reachInside_234, KX2_reachInside_241, KX2_reachInside_245, KX2_reachInside_246, KX2_reachInside_247, KX2_reachInside_253, KX2_reachInside_259, KX2_reachInside_265, KX2_reachInside_274, KX2_reachInside_283, KX2_reachInside_287, KX2_reachInside_288, lkC, s1C, s2C, dlC, kyC, Nat.beq, Nat.ble, rcd, rno, rsw, Nat.reduceAdd, Nat.reduceBEq, Nat.reduceDiv, List.drop, List.take, List.reverse, List.reverseAux, Int.toNat, Option.toList, List.append, List.cons_append, List.nil_append, zg270, zg277, zg283, zg284]
      intro w241 τ241 o241 q241
      obtain ⟨v241, rfl, hv241, hR241⟩ := q241 (N, E, A, B, V, z, T, ms, nm, j, r, true, f) ⟨_, _, rfl, hSs, hPf, hTg, ⟨hwf, hup, hBi⟩, hj, hp, hR, (by first | omega | (show _ = bZI true; rw [show bZI true = 1 from rfl]; omega) | (show _ = bZI false; rw [show bZI false = 0 from rfl]; omega)), (by have := hup j hj; omega)⟩
      obtain ⟨Q241, hQ241⟩ : ∃ q, bdR (rcF N z T f) z j true r = q := ⟨_, rfl⟩
      rw [hQ241] at hv241 hR241
      have hF241 : FrE [217, 218, 282, 283, 284] σ τ241 := FrE.mo o241.2 rfl
      have hSs_241 := SsC.fr hSs hF241 rfl
      have hPf_241 := PfC.fr hPf hF241 rfl
      have hTg_241 := TgC.fr hTg hF241 rfl
      have op_241 : SlC A B τ241 z j p1 ∧ p1 < cnC τ241 := by rw [hp]; exact hSs_241.1 j hj
      try dsimp only [Option.toList, List.cons_append, List.nil_append, s1C, s2C, dlC, kyC, Nat.beq, lkC, rcd, rno, rsw]
      have c242 : (Int32.ofInt 1).toInt = 1 := by decide
      intro w243 τ243 o243 q243
      obtain ⟨r243, rfl, hr243, rfl⟩ := q243 (N, E, A, B, V, z, T, ms, nm, j) ⟨_, _, rfl, hSs_241, hwf, hj, hp⟩
      rw [show ((Int32.ofInt 1) : Int32).toInt = 1 by omega] at hr243
      try dsimp only [Option.toList, List.cons_append, List.nil_append, s1C, s2C, dlC, kyC, Nat.beq, lkC, rcd, rno, rsw]
      refine ⟨fun h244 => ?_, fun h244 => ?_⟩
      · have g244 := (eqI (x := r243) (y := 0) h244 : (r243 : Int32).toInt = (0 : Int32).toInt)
        have z0_ : (0 : Int32).toInt = 0 := rfl
        have hb244 : (alwT z T j 1) = false := bZI_f (by omega)
        refine hB _ _ _ _ _ (fun m245 hm245 => ?_)
        dsimp only [ucgo, ucwp, ucsC, uqC, uoC, ctC, rfd, KX2_reachInside, KX2_reachInside_0, KX2_reachInside_96, KX2_reachInside_102, KX2_reachInside_111, KX2_reachInside_118, KX2_reachInside_122, KX2_reachInside_123, KX2_reachInside_124, KX2_reachInside_138, KX2_reachInside_150, KX2_reachInside_154, KX2_reachInside_158, KX2_reachInside_159, KX2_reachInside_160, KX2_reachInside_170, KX2_reachInside_174, KX2_reachInside_175, KX2_reachInside_187, KX2_reachInside_194, KX2_reachInside_198, KX2_reachInside_199, KX2_reachInside_200, KX2_reachInside_209, KX2_reachInside_216, KX2_reachInside_220, KX2_reachInside_221, KX2_reachInside_226, KX2_reachInside_234, KX2_reachInside_241, KX2_reachInside_245, KX2_reachInside_246, KX2_reachInside_247, KX2_reachInside_253, KX2_reachInside_259, KX2_reachInside_265, KX2_reachInside_274, KX2_reachInside_283, KX2_reachInside_287, KX2_reachInside_288, lkC, s1C, s2C, dlC, kyC, Nat.beq, Nat.ble, rcd, rno, rsw, Nat.reduceAdd, Nat.reduceBEq, Nat.reduceDiv, List.drop, List.take, List.reverse, List.reverseAux, Int.toNat, Option.toList, List.append, List.cons_append, List.nil_append, zg270, zg277, zg283, zg284]
        have c246 : (Int32.ofInt 1).toInt = 1 := by decide
        refine hB _ _ _ _ _ (fun m247 hm247 => ?_)
        dsimp only [ucgo, ucwp, ucsC, uqC, uoC, ctC, rfd, KX2_reachInside, KX2_reachInside_0, KX2_reachInside_96, KX2_reachInside_102, KX2_reachInside_111, KX2_reachInside_118, KX2_reachInside_122, KX2_reachInside_123, KX2_reachInside_124, KX2_reachInside_138, KX2_reachInside_150, KX2_reachInside_154, KX2_reachInside_158, KX2_reachInside_159, KX2_reachInside_160, KX2_reachInside_170, KX2_reachInside_174, KX2_reachInside_175, KX2_reachInside_187, KX2_reachInside_194, KX2_reachInside_198, KX2_reachInside_199, KX2_reachInside_200, KX2_reachInside_209, KX2_reachInside_216, KX2_reachInside_220, KX2_reachInside_221, KX2_reachInside_226, KX2_reachInside_234, KX2_reachInside_241, KX2_reachInside_245, KX2_reachInside_246, KX2_reachInside_247, KX2_reachInside_253, KX2_reachInside_259, KX2_reachInside_265, KX2_reachInside_274, KX2_reachInside_283, KX2_reachInside_287, KX2_reachInside_288, lkC, s1C, s2C, dlC, kyC, Nat.beq, Nat.ble, rcd, rno, rsw, Nat.reduceAdd, Nat.reduceBEq, Nat.reduceDiv, List.drop, List.take, List.reverse, List.reverseAux, Int.toNat, Option.toList, List.append, List.cons_append, List.nil_append, zg270, zg277, zg283, zg284]
        try dsimp only [Qz_reachInside]
        have hfin : inR (rcF N z T f) N z T j r = (!(alwT z T j 1) || Q241.2.2.1 j, Q241.2) := by
          rw [in_w (by omega)]
          unfold whR
          rw [show (!(alwT z T j 0)) = true by rw [hb217]; rfl, hQ241]
        rw [hfin]
        refine ⟨_, rfl, ?_, hR241⟩
        show _ = bZI _
        simp only [hb217, hb244, Bool.true_or, Bool.or_true, Bool.false_or, Bool.or_false, Bool.and_true, Bool.true_and, Bool.and_false, Bool.false_and, Bool.not_true, Bool.not_false]
        first
          | omega
          | (show _ = (1 : Int); omega)
          | (show _ = (0 : Int); omega)
      · have g244 := (neI (x := r243) (y := 0) h244 : ¬ (r243 : Int32).toInt = (0 : Int32).toInt)
        have z0_ : (0 : Int32).toInt = 0 := rfl
        have hb244 : (alwT z T j 1) = true := bZI_t (by omega)
        refine hB _ _ _ _ _ (fun m248 hm248 => ?_)
        dsimp only [ucgo, ucwp, ucsC, uqC, uoC, ctC, rfd, KX2_reachInside, KX2_reachInside_0, KX2_reachInside_96, KX2_reachInside_102, KX2_reachInside_111, KX2_reachInside_118, KX2_reachInside_122, KX2_reachInside_123, KX2_reachInside_124, KX2_reachInside_138, KX2_reachInside_150, KX2_reachInside_154, KX2_reachInside_158, KX2_reachInside_159, KX2_reachInside_160, KX2_reachInside_170, KX2_reachInside_174, KX2_reachInside_175, KX2_reachInside_187, KX2_reachInside_194, KX2_reachInside_198, KX2_reachInside_199, KX2_reachInside_200, KX2_reachInside_209, KX2_reachInside_216, KX2_reachInside_220, KX2_reachInside_221, KX2_reachInside_226, KX2_reachInside_234, KX2_reachInside_241, KX2_reachInside_245, KX2_reachInside_246, KX2_reachInside_247, KX2_reachInside_253, KX2_reachInside_259, KX2_reachInside_265, KX2_reachInside_274, KX2_reachInside_283, KX2_reachInside_287, KX2_reachInside_288, lkC, s1C, s2C, dlC, kyC, Nat.beq, Nat.ble, rcd, rno, rsw, Nat.reduceAdd, Nat.reduceBEq, Nat.reduceDiv, List.drop, List.take, List.reverse, List.reverseAux, Int.toNat, Option.toList, List.append, List.cons_append, List.nil_append, zg270, zg277, zg283, zg284]
        intro a249 e249 ob249
        cases e249
        have f250 : (fIC τ241 p1 283).toInt = bZI (Q241.2.2.1 j) := by rw [hp]; exact (hR241.1 j hj).2.1
        refine ⟨fun h251 => ?_, fun h251 => ?_⟩
        · have g251 := (eqI (x := (fIC τ241 p1 283)) (y := 0) h251 : ((fIC τ241 p1 283) : Int32).toInt = (0 : Int32).toInt)
          have z0_ : (0 : Int32).toInt = 0 := rfl
          have hb251 : (Q241.2.2.1 j) = false := bZI_f (by omega)
          refine hB _ _ _ _ _ (fun m252 hm252 => ?_)
          dsimp only [ucgo, ucwp, ucsC, uqC, uoC, ctC, rfd, KX2_reachInside, KX2_reachInside_0, KX2_reachInside_96, KX2_reachInside_102, KX2_reachInside_111, KX2_reachInside_118, KX2_reachInside_122, KX2_reachInside_123, KX2_reachInside_124, KX2_reachInside_138, KX2_reachInside_150, KX2_reachInside_154, KX2_reachInside_158, KX2_reachInside_159, KX2_reachInside_160, KX2_reachInside_170, KX2_reachInside_174, KX2_reachInside_175, KX2_reachInside_187, KX2_reachInside_194, KX2_reachInside_198, KX2_reachInside_199, KX2_reachInside_200, KX2_reachInside_209, KX2_reachInside_216, KX2_reachInside_220, KX2_reachInside_221, KX2_reachInside_226, KX2_reachInside_234, KX2_reachInside_241, KX2_reachInside_245, KX2_reachInside_246, KX2_reachInside_247, KX2_reachInside_253, KX2_reachInside_259, KX2_reachInside_265, KX2_reachInside_274, KX2_reachInside_283, KX2_reachInside_287, KX2_reachInside_288, lkC, s1C, s2C, dlC, kyC, Nat.beq, Nat.ble, rcd, rno, rsw, Nat.reduceAdd, Nat.reduceBEq, Nat.reduceDiv, List.drop, List.take, List.reverse, List.reverseAux, Int.toNat, Option.toList, List.append, List.cons_append, List.nil_append, zg270, zg277, zg283, zg284]
          have c253 : (Int32.ofInt 0).toInt = 0 := by decide
          refine hB _ _ _ _ _ (fun m254 hm254 => ?_)
          dsimp only [ucgo, ucwp, ucsC, uqC, uoC, ctC, rfd, KX2_reachInside, KX2_reachInside_0, KX2_reachInside_96, KX2_reachInside_102, KX2_reachInside_111, KX2_reachInside_118, KX2_reachInside_122, KX2_reachInside_123, KX2_reachInside_124, KX2_reachInside_138, KX2_reachInside_150, KX2_reachInside_154, KX2_reachInside_158, KX2_reachInside_159, KX2_reachInside_160, KX2_reachInside_170, KX2_reachInside_174, KX2_reachInside_175, KX2_reachInside_187, KX2_reachInside_194, KX2_reachInside_198, KX2_reachInside_199, KX2_reachInside_200, KX2_reachInside_209, KX2_reachInside_216, KX2_reachInside_220, KX2_reachInside_221, KX2_reachInside_226, KX2_reachInside_234, KX2_reachInside_241, KX2_reachInside_245, KX2_reachInside_246, KX2_reachInside_247, KX2_reachInside_253, KX2_reachInside_259, KX2_reachInside_265, KX2_reachInside_274, KX2_reachInside_283, KX2_reachInside_287, KX2_reachInside_288, lkC, s1C, s2C, dlC, kyC, Nat.beq, Nat.ble, rcd, rno, rsw, Nat.reduceAdd, Nat.reduceBEq, Nat.reduceDiv, List.drop, List.take, List.reverse, List.reverseAux, Int.toNat, Option.toList, List.append, List.cons_append, List.nil_append, zg270, zg277, zg283, zg284]
          try dsimp only [Qz_reachInside]
          have hfin : inR (rcF N z T f) N z T j r = (!(alwT z T j 1) || Q241.2.2.1 j, Q241.2) := by
            rw [in_w (by omega)]
            unfold whR
            rw [show (!(alwT z T j 0)) = true by rw [hb217]; rfl, hQ241]
          rw [hfin]
          refine ⟨_, rfl, ?_, hR241⟩
          show _ = bZI _
          simp only [hb217, hb244, hb251, Bool.true_or, Bool.or_true, Bool.false_or, Bool.or_false, Bool.and_true, Bool.true_and, Bool.and_false, Bool.false_and, Bool.not_true, Bool.not_false]
          first
            | omega
            | (show _ = (1 : Int); omega)
            | (show _ = (0 : Int); omega)
        · have g251 := (neI (x := (fIC τ241 p1 283)) (y := 0) h251 : ¬ ((fIC τ241 p1 283) : Int32).toInt = (0 : Int32).toInt)
          have z0_ : (0 : Int32).toInt = 0 := rfl
          have hb251 : (Q241.2.2.1 j) = true := bZI_t (by omega)
          refine hB _ _ _ _ _ (fun m255 hm255 => ?_)
          dsimp only [ucgo, ucwp, ucsC, uqC, uoC, ctC, rfd, KX2_reachInside, KX2_reachInside_0, KX2_reachInside_96, KX2_reachInside_102, KX2_reachInside_111, KX2_reachInside_118, KX2_reachInside_122, KX2_reachInside_123, KX2_reachInside_124, KX2_reachInside_138, KX2_reachInside_150, KX2_reachInside_154, KX2_reachInside_158, KX2_reachInside_159, KX2_reachInside_160, KX2_reachInside_170, KX2_reachInside_174, KX2_reachInside_175, KX2_reachInside_187, KX2_reachInside_194, KX2_reachInside_198, KX2_reachInside_199, KX2_reachInside_200, KX2_reachInside_209, KX2_reachInside_216, KX2_reachInside_220, KX2_reachInside_221, KX2_reachInside_226, KX2_reachInside_234, KX2_reachInside_241, KX2_reachInside_245, KX2_reachInside_246, KX2_reachInside_247, KX2_reachInside_253, KX2_reachInside_259, KX2_reachInside_265, KX2_reachInside_274, KX2_reachInside_283, KX2_reachInside_287, KX2_reachInside_288, lkC, s1C, s2C, dlC, kyC, Nat.beq, Nat.ble, rcd, rno, rsw, Nat.reduceAdd, Nat.reduceBEq, Nat.reduceDiv, List.drop, List.take, List.reverse, List.reverseAux, Int.toNat, Option.toList, List.append, List.cons_append, List.nil_append, zg270, zg277, zg283, zg284]
          have c256 : (Int32.ofInt 1).toInt = 1 := by decide
          refine hB _ _ _ _ _ (fun m257 hm257 => ?_)
          dsimp only [ucgo, ucwp, ucsC, uqC, uoC, ctC, rfd, KX2_reachInside, KX2_reachInside_0, KX2_reachInside_96, KX2_reachInside_102, KX2_reachInside_111, KX2_reachInside_118, KX2_reachInside_122, KX2_reachInside_123, KX2_reachInside_124, KX2_reachInside_138, KX2_reachInside_150, KX2_reachInside_154, KX2_reachInside_158, KX2_reachInside_159, KX2_reachInside_160, KX2_reachInside_170, KX2_reachInside_174, KX2_reachInside_175, KX2_reachInside_187, KX2_reachInside_194, KX2_reachInside_198, KX2_reachInside_199, KX2_reachInside_200, KX2_reachInside_209, KX2_reachInside_216, KX2_reachInside_220, KX2_reachInside_221, KX2_reachInside_226, KX2_reachInside_234, KX2_reachInside_241, KX2_reachInside_245, KX2_reachInside_246, KX2_reachInside_247, KX2_reachInside_253, KX2_reachInside_259, KX2_reachInside_265, KX2_reachInside_274, KX2_reachInside_283, KX2_reachInside_287, KX2_reachInside_288, lkC, s1C, s2C, dlC, kyC, Nat.beq, Nat.ble, rcd, rno, rsw, Nat.reduceAdd, Nat.reduceBEq, Nat.reduceDiv, List.drop, List.take, List.reverse, List.reverseAux, Int.toNat, Option.toList, List.append, List.cons_append, List.nil_append, zg270, zg277, zg283, zg284]
          try dsimp only [Qz_reachInside]
          have hfin : inR (rcF N z T f) N z T j r = (!(alwT z T j 1) || Q241.2.2.1 j, Q241.2) := by
            rw [in_w (by omega)]
            unfold whR
            rw [show (!(alwT z T j 0)) = true by rw [hb217]; rfl, hQ241]
          rw [hfin]
          refine ⟨_, rfl, ?_, hR241⟩
          show _ = bZI _
          simp only [hb217, hb244, hb251, Bool.true_or, Bool.or_true, Bool.false_or, Bool.or_false, Bool.and_true, Bool.true_and, Bool.and_false, Bool.false_and, Bool.not_true, Bool.not_false]
          first
            | omega
            | (show _ = (1 : Int); omega)
            | (show _ = (0 : Int); omega)
  have g213 : ¬ ((fIC σ p1 270) : Int32).toInt = 60 := h213
  refine ⟨fun h258 => ?_, fun h258 => ?_⟩
  · have g258 : ((fIC σ p1 270) : Int32).toInt = 61 := h258
    refine hB _ _ _ _ _ (fun m259 hm259 => ?_)
    dsimp only [ucgo, ucwp, ucsC, uqC, uoC, ctC, rfd, KX2_reachInside, KX2_reachInside_0, KX2_reachInside_96, KX2_reachInside_102, KX2_reachInside_111, KX2_reachInside_118, KX2_reachInside_122, KX2_reachInside_123, KX2_reachInside_124, KX2_reachInside_138, KX2_reachInside_150, KX2_reachInside_154, KX2_reachInside_158, KX2_reachInside_159, KX2_reachInside_160, KX2_reachInside_170, KX2_reachInside_174, KX2_reachInside_175, KX2_reachInside_187, KX2_reachInside_194, KX2_reachInside_198, KX2_reachInside_199, KX2_reachInside_200, KX2_reachInside_209, KX2_reachInside_216, KX2_reachInside_220, KX2_reachInside_221, KX2_reachInside_226, KX2_reachInside_234, KX2_reachInside_241, KX2_reachInside_245, KX2_reachInside_246, KX2_reachInside_247, KX2_reachInside_253, KX2_reachInside_259, KX2_reachInside_265, KX2_reachInside_274, KX2_reachInside_283, KX2_reachInside_287, KX2_reachInside_288, lkC, s1C, s2C, dlC, kyC, Nat.beq, Nat.ble, rcd, rno, rsw, Nat.reduceAdd, Nat.reduceBEq, Nat.reduceDiv, List.drop, List.take, List.reverse, List.reverseAux, Int.toNat, Option.toList, List.append, List.cons_append, List.nil_append, zg270, zg277, zg283, zg284]
    intro w260 τ260 o260 q260
    obtain ⟨v260, rfl, hv260, hR260⟩ := q260 (N, E, A, B, V, z, T, ms, nm, j, r, f) ⟨_, rfl, hSs, hPf, hTg, ⟨hwf, hup, hBi⟩, hj, hp, hR, (by have := hup j hj; omega)⟩
    obtain ⟨Q260, hQ260⟩ : ∃ q, swR (rcF N z T f) z j r = q := ⟨_, rfl⟩
    rw [hQ260] at hv260 hR260
    have hF260 : FrE [217, 218, 282, 283, 284] σ τ260 := FrE.mo o260.2 rfl
    have hSs_260 := SsC.fr hSs hF260 rfl
    have hPf_260 := PfC.fr hPf hF260 rfl
    have hTg_260 := TgC.fr hTg hF260 rfl
    have op_260 : SlC A B τ260 z j p1 ∧ p1 < cnC τ260 := by rw [hp]; exact hSs_260.1 j hj
    try dsimp only [Option.toList, List.cons_append, List.nil_append, s1C, s2C, dlC, kyC, Nat.beq, lkC, rcd, rno, rsw]
    try dsimp only [Qz_reachInside]
    have hfin : inR (rcF N z T f) N z T j r = (Q260.1, Q260.2) := by
      rw [in_s (by omega), hQ260]
    rw [hfin]
    refine ⟨_, rfl, ?_, hR260⟩
    show _ = bZI _
    first
      | omega
      | (show _ = (1 : Int); omega)
      | (show _ = (0 : Int); omega)
  have g258 : ¬ ((fIC σ p1 270) : Int32).toInt = 61 := h258
  refine ⟨fun h261 => ?_, fun h261 => ?_⟩
  · have g261 : ((fIC σ p1 270) : Int32).toInt = 64 := h261
    refine hB _ _ _ _ _ (fun m262 hm262 => ?_)
    dsimp only [ucgo, ucwp, ucsC, uqC, uoC, ctC, rfd, KX2_reachInside, KX2_reachInside_0, KX2_reachInside_96, KX2_reachInside_102, KX2_reachInside_111, KX2_reachInside_118, KX2_reachInside_122, KX2_reachInside_123, KX2_reachInside_124, KX2_reachInside_138, KX2_reachInside_150, KX2_reachInside_154, KX2_reachInside_158, KX2_reachInside_159, KX2_reachInside_160, KX2_reachInside_170, KX2_reachInside_174, KX2_reachInside_175, KX2_reachInside_187, KX2_reachInside_194, KX2_reachInside_198, KX2_reachInside_199, KX2_reachInside_200, KX2_reachInside_209, KX2_reachInside_216, KX2_reachInside_220, KX2_reachInside_221, KX2_reachInside_226, KX2_reachInside_234, KX2_reachInside_241, KX2_reachInside_245, KX2_reachInside_246, KX2_reachInside_247, KX2_reachInside_253, KX2_reachInside_259, KX2_reachInside_265, KX2_reachInside_274, KX2_reachInside_283, KX2_reachInside_287, KX2_reachInside_288, lkC, s1C, s2C, dlC, kyC, Nat.beq, Nat.ble, rcd, rno, rsw, Nat.reduceAdd, Nat.reduceBEq, Nat.reduceDiv, List.drop, List.take, List.reverse, List.reverseAux, Int.toNat, Option.toList, List.append, List.cons_append, List.nil_append, zg270, zg277, zg283, zg284]
    intro w263 τ263 o263 q263
    obtain ⟨rfl, hR263⟩ := q263 (N, E, A, B, V, z, T, ms, nm, j, r) ⟨_, rfl, hSs, hPf, hTg, ⟨hwf, hup, hBi⟩, hj, hp, hR, by omega⟩
    have hF263 : FrE [217, 218, 282, 283, 284] σ τ263 := FrE.mo o263.2 rfl
    have hSs_263 := SsC.fr hSs hF263 rfl
    have hPf_263 := PfC.fr hPf hF263 rfl
    have hTg_263 := TgC.fr hTg hF263 rfl
    have op_263 : SlC A B τ263 z j p1 ∧ p1 < cnC τ263 := by rw [hp]; exact hSs_263.1 j hj
    try dsimp only [Option.toList, List.cons_append, List.nil_append, s1C, s2C, dlC, kyC, Nat.beq, lkC, rcd, rno, rsw]
    have c264 : (Int32.ofInt 0).toInt = 0 := by decide
    try dsimp only [Qz_reachInside]
    have hfin : inR (rcF N z T f) N z T j r = (false, mkR N z j r) := by
      rw [in_j (by omega)]
    rw [hfin]
    refine ⟨_, rfl, ?_, hR263⟩
    show _ = bZI _
    first
      | omega
      | (show _ = (1 : Int); omega)
      | (show _ = (0 : Int); omega)
  have g261 : ¬ ((fIC σ p1 270) : Int32).toInt = 64 := h261
  refine ⟨fun h265 => ?_, fun h265 => ?_⟩
  · have g265 : ((fIC σ p1 270) : Int32).toInt = 65 := h265
    refine hB _ _ _ _ _ (fun m266 hm266 => ?_)
    dsimp only [ucgo, ucwp, ucsC, uqC, uoC, ctC, rfd, KX2_reachInside, KX2_reachInside_0, KX2_reachInside_96, KX2_reachInside_102, KX2_reachInside_111, KX2_reachInside_118, KX2_reachInside_122, KX2_reachInside_123, KX2_reachInside_124, KX2_reachInside_138, KX2_reachInside_150, KX2_reachInside_154, KX2_reachInside_158, KX2_reachInside_159, KX2_reachInside_160, KX2_reachInside_170, KX2_reachInside_174, KX2_reachInside_175, KX2_reachInside_187, KX2_reachInside_194, KX2_reachInside_198, KX2_reachInside_199, KX2_reachInside_200, KX2_reachInside_209, KX2_reachInside_216, KX2_reachInside_220, KX2_reachInside_221, KX2_reachInside_226, KX2_reachInside_234, KX2_reachInside_241, KX2_reachInside_245, KX2_reachInside_246, KX2_reachInside_247, KX2_reachInside_253, KX2_reachInside_259, KX2_reachInside_265, KX2_reachInside_274, KX2_reachInside_283, KX2_reachInside_287, KX2_reachInside_288, lkC, s1C, s2C, dlC, kyC, Nat.beq, Nat.ble, rcd, rno, rsw, Nat.reduceAdd, Nat.reduceBEq, Nat.reduceDiv, List.drop, List.take, List.reverse, List.reverseAux, Int.toNat, Option.toList, List.append, List.cons_append, List.nil_append, zg270, zg277, zg283, zg284]
    intro w267 τ267 o267 q267
    obtain ⟨rfl, hR267⟩ := q267 (N, E, A, B, V, z, T, ms, nm, j, r) ⟨_, rfl, hSs, hPf, hTg, ⟨hwf, hup, hBi⟩, hj, hp, hR, by omega⟩
    have hF267 : FrE [217, 218, 282, 283, 284] σ τ267 := FrE.mo o267.2 rfl
    have hSs_267 := SsC.fr hSs hF267 rfl
    have hPf_267 := PfC.fr hPf hF267 rfl
    have hTg_267 := TgC.fr hTg hF267 rfl
    have op_267 : SlC A B τ267 z j p1 ∧ p1 < cnC τ267 := by rw [hp]; exact hSs_267.1 j hj
    try dsimp only [Option.toList, List.cons_append, List.nil_append, s1C, s2C, dlC, kyC, Nat.beq, lkC, rcd, rno, rsw]
    have c268 : (Int32.ofInt 0).toInt = 0 := by decide
    try dsimp only [Qz_reachInside]
    have hfin : inR (rcF N z T f) N z T j r = (false, mkR N z j r) := by
      rw [in_j (by omega)]
    rw [hfin]
    refine ⟨_, rfl, ?_, hR267⟩
    show _ = bZI _
    first
      | omega
      | (show _ = (1 : Int); omega)
      | (show _ = (0 : Int); omega)
  have g265 : ¬ ((fIC σ p1 270) : Int32).toInt = 65 := h265
  refine ⟨fun h269 => ?_, fun h269 => ?_⟩
  · have g269 : ((fIC σ p1 270) : Int32).toInt = 68 := h269
    refine hB _ _ _ _ _ (fun m270 hm270 => ?_)
    dsimp only [ucgo, ucwp, ucsC, uqC, uoC, ctC, rfd, KX2_reachInside, KX2_reachInside_0, KX2_reachInside_96, KX2_reachInside_102, KX2_reachInside_111, KX2_reachInside_118, KX2_reachInside_122, KX2_reachInside_123, KX2_reachInside_124, KX2_reachInside_138, KX2_reachInside_150, KX2_reachInside_154, KX2_reachInside_158, KX2_reachInside_159, KX2_reachInside_160, KX2_reachInside_170, KX2_reachInside_174, KX2_reachInside_175, KX2_reachInside_187, KX2_reachInside_194, KX2_reachInside_198, KX2_reachInside_199, KX2_reachInside_200, KX2_reachInside_209, KX2_reachInside_216, KX2_reachInside_220, KX2_reachInside_221, KX2_reachInside_226, KX2_reachInside_234, KX2_reachInside_241, KX2_reachInside_245, KX2_reachInside_246, KX2_reachInside_247, KX2_reachInside_253, KX2_reachInside_259, KX2_reachInside_265, KX2_reachInside_274, KX2_reachInside_283, KX2_reachInside_287, KX2_reachInside_288, lkC, s1C, s2C, dlC, kyC, Nat.beq, Nat.ble, rcd, rno, rsw, Nat.reduceAdd, Nat.reduceBEq, Nat.reduceDiv, List.drop, List.take, List.reverse, List.reverseAux, Int.toNat, Option.toList, List.append, List.cons_append, List.nil_append, zg270, zg277, zg283, zg284]
    intro w271 τ271 o271 q271
    obtain ⟨v271, rfl, hv271, hR271⟩ := q271 (N, E, A, B, V, z, T, ms, nm, j, r, f) ⟨_, rfl, hSs, hPf, hTg, ⟨hwf, hup, hBi⟩, hj, hp, hR, (by have := hup j hj; omega)⟩
    obtain ⟨Q271, hQ271⟩ : ∃ q, tyR (rcF N z T f) z j r = q := ⟨_, rfl⟩
    rw [hQ271] at hv271 hR271
    have hF271 : FrE [217, 218, 282, 283, 284] σ τ271 := FrE.mo o271.2 rfl
    have hSs_271 := SsC.fr hSs hF271 rfl
    have hPf_271 := PfC.fr hPf hF271 rfl
    have hTg_271 := TgC.fr hTg hF271 rfl
    have op_271 : SlC A B τ271 z j p1 ∧ p1 < cnC τ271 := by rw [hp]; exact hSs_271.1 j hj
    try dsimp only [Option.toList, List.cons_append, List.nil_append, s1C, s2C, dlC, kyC, Nat.beq, lkC, rcd, rno, rsw]
    try dsimp only [Qz_reachInside]
    have hfin : inR (rcF N z T f) N z T j r = (Q271.1, Q271.2) := by
      rw [in_t (by omega), hQ271]
    rw [hfin]
    refine ⟨_, rfl, ?_, hR271⟩
    show _ = bZI _
    first
      | omega
      | (show _ = (1 : Int); omega)
      | (show _ = (0 : Int); omega)
  have g269 : ¬ ((fIC σ p1 270) : Int32).toInt = 68 := h269
  refine hB _ _ _ _ _ (fun m272 hm272 => ?_)
  dsimp only [ucgo, ucwp, ucsC, uqC, uoC, ctC, rfd, KX2_reachInside, KX2_reachInside_0, KX2_reachInside_96, KX2_reachInside_102, KX2_reachInside_111, KX2_reachInside_118, KX2_reachInside_122, KX2_reachInside_123, KX2_reachInside_124, KX2_reachInside_138, KX2_reachInside_150, KX2_reachInside_154, KX2_reachInside_158, KX2_reachInside_159, KX2_reachInside_160, KX2_reachInside_170, KX2_reachInside_174, KX2_reachInside_175, KX2_reachInside_187, KX2_reachInside_194, KX2_reachInside_198, KX2_reachInside_199, KX2_reachInside_200, KX2_reachInside_209, KX2_reachInside_216, KX2_reachInside_220, KX2_reachInside_221, KX2_reachInside_226, KX2_reachInside_234, KX2_reachInside_241, KX2_reachInside_245, KX2_reachInside_246, KX2_reachInside_247, KX2_reachInside_253, KX2_reachInside_259, KX2_reachInside_265, KX2_reachInside_274, KX2_reachInside_283, KX2_reachInside_287, KX2_reachInside_288, lkC, s1C, s2C, dlC, kyC, Nat.beq, Nat.ble, rcd, rno, rsw, Nat.reduceAdd, Nat.reduceBEq, Nat.reduceDiv, List.drop, List.take, List.reverse, List.reverseAux, Int.toNat, Option.toList, List.append, List.cons_append, List.nil_append, zg270, zg277, zg283, zg284]
  intro a273 e273 ob273
  cases e273
  have f274 : (fIC σ p1 270).toInt = kjS z j := op.1.1.1
  have c275 : (Int32.ofInt 66).toInt = 66 := by decide
  refine ⟨fun h276 => ?_, fun h276 => ?_⟩
  · have g276 := (eqI (x := (fIC σ p1 270)) (y := (Int32.ofInt 66)) h276 : ((fIC σ p1 270) : Int32).toInt = ((Int32.ofInt 66) : Int32).toInt)
    refine hB _ _ _ _ _ (fun m277 hm277 => ?_)
    dsimp only [ucgo, ucwp, ucsC, uqC, uoC, ctC, rfd, KX2_reachInside, KX2_reachInside_0, KX2_reachInside_96, KX2_reachInside_102, KX2_reachInside_111, KX2_reachInside_118, KX2_reachInside_122, KX2_reachInside_123, KX2_reachInside_124, KX2_reachInside_138, KX2_reachInside_150, KX2_reachInside_154, KX2_reachInside_158, KX2_reachInside_159, KX2_reachInside_160, KX2_reachInside_170, KX2_reachInside_174, KX2_reachInside_175, KX2_reachInside_187, KX2_reachInside_194, KX2_reachInside_198, KX2_reachInside_199, KX2_reachInside_200, KX2_reachInside_209, KX2_reachInside_216, KX2_reachInside_220, KX2_reachInside_221, KX2_reachInside_226, KX2_reachInside_234, KX2_reachInside_241, KX2_reachInside_245, KX2_reachInside_246, KX2_reachInside_247, KX2_reachInside_253, KX2_reachInside_259, KX2_reachInside_265, KX2_reachInside_274, KX2_reachInside_283, KX2_reachInside_287, KX2_reachInside_288, lkC, s1C, s2C, dlC, kyC, Nat.beq, Nat.ble, rcd, rno, rsw, Nat.reduceAdd, Nat.reduceBEq, Nat.reduceDiv, List.drop, List.take, List.reverse, List.reverseAux, Int.toNat, Option.toList, List.append, List.cons_append, List.nil_append, zg270, zg277, zg283, zg284]
    have c278 : (Int32.ofInt 0).toInt = 0 := by decide
    refine hB _ _ _ _ _ (fun m279 hm279 => ?_)
    dsimp only [ucgo, ucwp, ucsC, uqC, uoC, ctC, rfd, KX2_reachInside, KX2_reachInside_0, KX2_reachInside_96, KX2_reachInside_102, KX2_reachInside_111, KX2_reachInside_118, KX2_reachInside_122, KX2_reachInside_123, KX2_reachInside_124, KX2_reachInside_138, KX2_reachInside_150, KX2_reachInside_154, KX2_reachInside_158, KX2_reachInside_159, KX2_reachInside_160, KX2_reachInside_170, KX2_reachInside_174, KX2_reachInside_175, KX2_reachInside_187, KX2_reachInside_194, KX2_reachInside_198, KX2_reachInside_199, KX2_reachInside_200, KX2_reachInside_209, KX2_reachInside_216, KX2_reachInside_220, KX2_reachInside_221, KX2_reachInside_226, KX2_reachInside_234, KX2_reachInside_241, KX2_reachInside_245, KX2_reachInside_246, KX2_reachInside_247, KX2_reachInside_253, KX2_reachInside_259, KX2_reachInside_265, KX2_reachInside_274, KX2_reachInside_283, KX2_reachInside_287, KX2_reachInside_288, lkC, s1C, s2C, dlC, kyC, Nat.beq, Nat.ble, rcd, rno, rsw, Nat.reduceAdd, Nat.reduceBEq, Nat.reduceDiv, List.drop, List.take, List.reverse, List.reverseAux, Int.toNat, Option.toList, List.append, List.cons_append, List.nil_append, zg270, zg277, zg283, zg284]
    try dsimp only [Qz_reachInside]
    have hd1 : decide (kjS z j = 66) = true := decide_eq_true (by omega)
    have hd2 : decide (kjS z j = 67) = false := decide_eq_false (by omega)
    have hfin : inR (rcF N z T f) N z T j r = (false, r) := by
      rw [in_o (by omega), hd1, hd2]
      rfl
    rw [hfin]
    refine ⟨_, rfl, ?_, hR⟩
    show _ = bZI _
    first
      | omega
      | (show _ = (1 : Int); omega)
      | (show _ = (0 : Int); omega)
  · have g276 := (neI (x := (fIC σ p1 270)) (y := (Int32.ofInt 66)) h276 : ¬ ((fIC σ p1 270) : Int32).toInt = ((Int32.ofInt 66) : Int32).toInt)
    refine hB _ _ _ _ _ (fun m280 hm280 => ?_)
    dsimp only [ucgo, ucwp, ucsC, uqC, uoC, ctC, rfd, KX2_reachInside, KX2_reachInside_0, KX2_reachInside_96, KX2_reachInside_102, KX2_reachInside_111, KX2_reachInside_118, KX2_reachInside_122, KX2_reachInside_123, KX2_reachInside_124, KX2_reachInside_138, KX2_reachInside_150, KX2_reachInside_154, KX2_reachInside_158, KX2_reachInside_159, KX2_reachInside_160, KX2_reachInside_170, KX2_reachInside_174, KX2_reachInside_175, KX2_reachInside_187, KX2_reachInside_194, KX2_reachInside_198, KX2_reachInside_199, KX2_reachInside_200, KX2_reachInside_209, KX2_reachInside_216, KX2_reachInside_220, KX2_reachInside_221, KX2_reachInside_226, KX2_reachInside_234, KX2_reachInside_241, KX2_reachInside_245, KX2_reachInside_246, KX2_reachInside_247, KX2_reachInside_253, KX2_reachInside_259, KX2_reachInside_265, KX2_reachInside_274, KX2_reachInside_283, KX2_reachInside_287, KX2_reachInside_288, lkC, s1C, s2C, dlC, kyC, Nat.beq, Nat.ble, rcd, rno, rsw, Nat.reduceAdd, Nat.reduceBEq, Nat.reduceDiv, List.drop, List.take, List.reverse, List.reverseAux, Int.toNat, Option.toList, List.append, List.cons_append, List.nil_append, zg270, zg277, zg283, zg284]
    intro a281 e281 ob281
    cases e281
    have f282 : (fIC σ p1 270).toInt = kjS z j := op.1.1.1
    have c283 : (Int32.ofInt 67).toInt = 67 := by decide
    refine ⟨fun h284 => ?_, fun h284 => ?_⟩
    · have g284 := (eqI (x := (fIC σ p1 270)) (y := (Int32.ofInt 67)) h284 : ((fIC σ p1 270) : Int32).toInt = ((Int32.ofInt 67) : Int32).toInt)
      refine hB _ _ _ _ _ (fun m285 hm285 => ?_)
      dsimp only [ucgo, ucwp, ucsC, uqC, uoC, ctC, rfd, KX2_reachInside, KX2_reachInside_0, KX2_reachInside_96, KX2_reachInside_102, KX2_reachInside_111, KX2_reachInside_118, KX2_reachInside_122, KX2_reachInside_123, KX2_reachInside_124, KX2_reachInside_138, KX2_reachInside_150, KX2_reachInside_154, KX2_reachInside_158, KX2_reachInside_159, KX2_reachInside_160, KX2_reachInside_170, KX2_reachInside_174, KX2_reachInside_175, KX2_reachInside_187, KX2_reachInside_194, KX2_reachInside_198, KX2_reachInside_199, KX2_reachInside_200, KX2_reachInside_209, KX2_reachInside_216, KX2_reachInside_220, KX2_reachInside_221, KX2_reachInside_226, KX2_reachInside_234, KX2_reachInside_241, KX2_reachInside_245, KX2_reachInside_246, KX2_reachInside_247, KX2_reachInside_253, KX2_reachInside_259, KX2_reachInside_265, KX2_reachInside_274, KX2_reachInside_283, KX2_reachInside_287, KX2_reachInside_288, lkC, s1C, s2C, dlC, kyC, Nat.beq, Nat.ble, rcd, rno, rsw, Nat.reduceAdd, Nat.reduceBEq, Nat.reduceDiv, List.drop, List.take, List.reverse, List.reverseAux, Int.toNat, Option.toList, List.append, List.cons_append, List.nil_append, zg270, zg277, zg283, zg284]
      have c286 : (Int32.ofInt 0).toInt = 0 := by decide
      refine hB _ _ _ _ _ (fun m287 hm287 => ?_)
      dsimp only [ucgo, ucwp, ucsC, uqC, uoC, ctC, rfd, KX2_reachInside, KX2_reachInside_0, KX2_reachInside_96, KX2_reachInside_102, KX2_reachInside_111, KX2_reachInside_118, KX2_reachInside_122, KX2_reachInside_123, KX2_reachInside_124, KX2_reachInside_138, KX2_reachInside_150, KX2_reachInside_154, KX2_reachInside_158, KX2_reachInside_159, KX2_reachInside_160, KX2_reachInside_170, KX2_reachInside_174, KX2_reachInside_175, KX2_reachInside_187, KX2_reachInside_194, KX2_reachInside_198, KX2_reachInside_199, KX2_reachInside_200, KX2_reachInside_209, KX2_reachInside_216, KX2_reachInside_220, KX2_reachInside_221, KX2_reachInside_226, KX2_reachInside_234, KX2_reachInside_241, KX2_reachInside_245, KX2_reachInside_246, KX2_reachInside_247, KX2_reachInside_253, KX2_reachInside_259, KX2_reachInside_265, KX2_reachInside_274, KX2_reachInside_283, KX2_reachInside_287, KX2_reachInside_288, lkC, s1C, s2C, dlC, kyC, Nat.beq, Nat.ble, rcd, rno, rsw, Nat.reduceAdd, Nat.reduceBEq, Nat.reduceDiv, List.drop, List.take, List.reverse, List.reverseAux, Int.toNat, Option.toList, List.append, List.cons_append, List.nil_append, zg270, zg277, zg283, zg284]
      try dsimp only [Qz_reachInside]
      have hd1 : decide (kjS z j = 66) = false := decide_eq_false (by omega)
      have hd2 : decide (kjS z j = 67) = true := decide_eq_true (by omega)
      have hfin : inR (rcF N z T f) N z T j r = (false, r) := by
        rw [in_o (by omega), hd1, hd2]
        rfl
      rw [hfin]
      refine ⟨_, rfl, ?_, hR⟩
      show _ = bZI _
      first
        | omega
        | (show _ = (1 : Int); omega)
        | (show _ = (0 : Int); omega)
    · have g284 := (neI (x := (fIC σ p1 270)) (y := (Int32.ofInt 67)) h284 : ¬ ((fIC σ p1 270) : Int32).toInt = ((Int32.ofInt 67) : Int32).toInt)
      refine hB _ _ _ _ _ (fun m288 hm288 => ?_)
      dsimp only [ucgo, ucwp, ucsC, uqC, uoC, ctC, rfd, KX2_reachInside, KX2_reachInside_0, KX2_reachInside_96, KX2_reachInside_102, KX2_reachInside_111, KX2_reachInside_118, KX2_reachInside_122, KX2_reachInside_123, KX2_reachInside_124, KX2_reachInside_138, KX2_reachInside_150, KX2_reachInside_154, KX2_reachInside_158, KX2_reachInside_159, KX2_reachInside_160, KX2_reachInside_170, KX2_reachInside_174, KX2_reachInside_175, KX2_reachInside_187, KX2_reachInside_194, KX2_reachInside_198, KX2_reachInside_199, KX2_reachInside_200, KX2_reachInside_209, KX2_reachInside_216, KX2_reachInside_220, KX2_reachInside_221, KX2_reachInside_226, KX2_reachInside_234, KX2_reachInside_241, KX2_reachInside_245, KX2_reachInside_246, KX2_reachInside_247, KX2_reachInside_253, KX2_reachInside_259, KX2_reachInside_265, KX2_reachInside_274, KX2_reachInside_283, KX2_reachInside_287, KX2_reachInside_288, lkC, s1C, s2C, dlC, kyC, Nat.beq, Nat.ble, rcd, rno, rsw, Nat.reduceAdd, Nat.reduceBEq, Nat.reduceDiv, List.drop, List.take, List.reverse, List.reverseAux, Int.toNat, Option.toList, List.append, List.cons_append, List.nil_append, zg270, zg277, zg283, zg284]
      have c289 : (Int32.ofInt 1).toInt = 1 := by decide
      refine hB _ _ _ _ _ (fun m290 hm290 => ?_)
      dsimp only [ucgo, ucwp, ucsC, uqC, uoC, ctC, rfd, KX2_reachInside, KX2_reachInside_0, KX2_reachInside_96, KX2_reachInside_102, KX2_reachInside_111, KX2_reachInside_118, KX2_reachInside_122, KX2_reachInside_123, KX2_reachInside_124, KX2_reachInside_138, KX2_reachInside_150, KX2_reachInside_154, KX2_reachInside_158, KX2_reachInside_159, KX2_reachInside_160, KX2_reachInside_170, KX2_reachInside_174, KX2_reachInside_175, KX2_reachInside_187, KX2_reachInside_194, KX2_reachInside_198, KX2_reachInside_199, KX2_reachInside_200, KX2_reachInside_209, KX2_reachInside_216, KX2_reachInside_220, KX2_reachInside_221, KX2_reachInside_226, KX2_reachInside_234, KX2_reachInside_241, KX2_reachInside_245, KX2_reachInside_246, KX2_reachInside_247, KX2_reachInside_253, KX2_reachInside_259, KX2_reachInside_265, KX2_reachInside_274, KX2_reachInside_283, KX2_reachInside_287, KX2_reachInside_288, lkC, s1C, s2C, dlC, kyC, Nat.beq, Nat.ble, rcd, rno, rsw, Nat.reduceAdd, Nat.reduceBEq, Nat.reduceDiv, List.drop, List.take, List.reverse, List.reverseAux, Int.toNat, Option.toList, List.append, List.cons_append, List.nil_append, zg270, zg277, zg283, zg284]
      try dsimp only [Qz_reachInside]
      have hd1 : decide (kjS z j = 66) = false := decide_eq_false (by omega)
      have hd2 : decide (kjS z j = 67) = false := decide_eq_false (by omega)
      have hfin : inR (rcF N z T f) N z T j r = (true, r) := by
        rw [in_o (by omega), hd1, hd2]
        rfl
      rw [hfin]
      refine ⟨_, rfl, ?_, hR⟩
      show _ = bZI _
      first
        | omega
        | (show _ = (1 : Int); omega)
        | (show _ = (0 : Int); omega)
theorem grp_rch : ∀ L : Nat, (∀ (As : List AvC) (σ : CsC) (w : Option AvC) (τ : CsC), EvF L 22 As σ w τ → Uz_reach As σ w τ) ∧ (∀ (As : List AvC) (σ : CsC) (w : Option AvC) (τ : CsC), EvF L 23 As σ w τ → Uz_reachInside As σ w τ) ∧ (∀ (As : List AvC) (σ : CsC) (w : Option AvC) (τ : CsC), EvF L 24 As σ w τ → Uz_reachBody As σ w τ) ∧ (∀ (As : List AvC) (σ : CsC) (w : Option AvC) (τ : CsC), EvF L 21 As σ w τ → Uz_reachRow As σ w τ) ∧ (∀ (As : List AvC) (σ : CsC) (w : Option AvC) (τ : CsC), EvF L 25 As σ w τ → Uz_reachSwitch As σ w τ) ∧ (∀ (As : List AvC) (σ : CsC) (w : Option AvC) (τ : CsC), EvF L 26 As σ w τ → Uz_reachTry As σ w τ) := by
  intro L
  induction L with
  | zero => exact ⟨fun _ _ _ _ h => h.elim, fun _ _ _ _ h => h.elim, fun _ _ _ _ h => h.elim, fun _ _ _ _ h => h.elim, fun _ _ _ _ h => h.elim, fun _ _ _ _ h => h.elim⟩
  | succ L ih =>
    obtain ⟨i_reach, i_reachInside, i_reachBody, i_reachRow, i_reachSwitch, i_reachTry⟩ := ih
    exact ⟨fun As σ w τ h y hy => EvF.us (cs := [23, 118]) (pz_reach y) rfl (List.forall_mem_cons.2 ⟨i_reachInside, List.forall_mem_cons.2 ⟨wz_tell L, fun _ h => absurd h List.not_mem_nil⟩⟩) h hy, fun As σ w τ h y hy => EvF.us (cs := [21, 24, 22, 183, 25, 27, 26]) (pz_reachInside y) rfl (List.forall_mem_cons.2 ⟨i_reachRow, List.forall_mem_cons.2 ⟨i_reachBody, List.forall_mem_cons.2 ⟨i_reach, List.forall_mem_cons.2 ⟨wz_isAlways L, List.forall_mem_cons.2 ⟨i_reachSwitch, List.forall_mem_cons.2 ⟨wz_markTarget L, List.forall_mem_cons.2 ⟨i_reachTry, fun _ h => absurd h List.not_mem_nil⟩⟩⟩⟩⟩⟩⟩) h hy, fun As σ w τ h y hy => EvF.us (cs := [22]) (pz_reachBody y) rfl (List.forall_mem_cons.2 ⟨i_reach, fun _ h => absurd h List.not_mem_nil⟩) h hy, fun As σ w τ h y hy => EvF.us (cs := [22]) (pz_reachRow y) rfl (List.forall_mem_cons.2 ⟨i_reach, fun _ h => absurd h List.not_mem_nil⟩) h hy, fun As σ w τ h y hy => EvF.us (cs := [22]) (pz_reachSwitch y) rfl (List.forall_mem_cons.2 ⟨i_reach, fun _ h => absurd h List.not_mem_nil⟩) h hy, fun As σ w τ h y hy => EvF.us (cs := [21]) (pz_reachTry y) rfl (List.forall_mem_cons.2 ⟨i_reachRow, fun _ h => absurd h List.not_mem_nil⟩) h hy⟩
theorem wz_reach (L : Nat) : ∀ (As : List AvC) (σ : CsC) (w : Option AvC) (τ : CsC), EvF L 22 As σ w τ → Uz_reach As σ w τ := (grp_rch L).1
theorem wz_reachInside (L : Nat) : ∀ (As : List AvC) (σ : CsC) (w : Option AvC) (τ : CsC), EvF L 23 As σ w τ → Uz_reachInside As σ w τ := (grp_rch L).2.1
theorem wz_reachBody (L : Nat) : ∀ (As : List AvC) (σ : CsC) (w : Option AvC) (τ : CsC), EvF L 24 As σ w τ → Uz_reachBody As σ w τ := (grp_rch L).2.2.1
theorem wz_reachRow (L : Nat) : ∀ (As : List AvC) (σ : CsC) (w : Option AvC) (τ : CsC), EvF L 21 As σ w τ → Uz_reachRow As σ w τ := (grp_rch L).2.2.2.1
theorem wz_reachSwitch (L : Nat) : ∀ (As : List AvC) (σ : CsC) (w : Option AvC) (τ : CsC), EvF L 25 As σ w τ → Uz_reachSwitch As σ w τ := (grp_rch L).2.2.2.2.1
theorem wz_reachTry (L : Nat) : ∀ (As : List AvC) (σ : CsC) (w : Option AvC) (τ : CsC), EvF L 26 As σ w τ → Uz_reachTry As σ w τ := (grp_rch L).2.2.2.2.2
