/-! the class's judge: exps, one by one -/
def o1T (a t : TvT) (x : XrZ) : Option TvT := if x.1.1 = 3 then x3T a t else if x.1.1 = 4 then x4T a t x else x5T a t x
abbrev Pz_judgeName : ((Int → Int) × (Nat → Nat) × (Nat → Nat) × (Nat → Nat) × (Nat → Nat) × ZS × CxT × (Nat → TvT) × (Nat → Int × Int64) × XrZ × TvT) → CpC := fun y As σ => match y with
  | (N, E, A, B, V, z, C, T1, T2, x, t) => ∃ (p1 : Nat), As = [.inr (.inr (some (E 3))), .inr (.inr (some p1))] ∧ (PjC E σ) ∧ (fIC σ (E 1) 217 = 0) ∧ (p1 < cnC σ) ∧ (XqC σ x p1) ∧ (TwC σ p1 t) ∧ (x.1.1 = 2) ∧ (VpC E V σ C) ∧ (∀ v, v < C.2.2.1 → (fIC σ (V v) 335).toInt = (T2 v).1 ∧ (¬ (T2 v).1 = 0 → fLC σ (V v) 336 = (T2 v).2))
abbrev Qz_judgeName : ((Int → Int) × (Nat → Nat) × (Nat → Nat) × (Nat → Nat) × (Nat → Nat) × ZS × CxT × (Nat → TvT) × (Nat → Int × Int64) × XrZ × TvT) → CqC := fun y As σ w τ => match y, As with
  | (N, E, A, B, V, z, C, T1, T2, x, t), [_, .inr (.inr (some p1))] => w = none ∧ JqC E [68, 70, 71] σ τ p1 (x2T C (T1, T2) t x) (fun r => r.2.2.2 = t.2.2.2)
  | _, _ => True
abbrev Uz_judgeName : CqC := fun As σ w τ => ∀ y, Pz_judgeName y As σ → Qz_judgeName y As σ w τ
set_option maxHeartbeats 4000000 in
theorem pz_judgeName (y : (Int → Int) × (Nat → Nat) × (Nat → Nat) × (Nat → Nat) × (Nat → Nat) × ZS × CxT × (Nat → TvT) × (Nat → Int × Int64) × XrZ × TvT) : PbC KX3_judgeName [(51, TrP, EqC 51), (118, TrP, EqC 118)] [(51, Uz_variableOf), (118, Uz_tell)] (fun As σ => Pz_judgeName y As σ ∧ cnC σ ≤ 1000000 ∧ ∃ w τ, uqC quL 55 As σ w τ) (Qz_judgeName y) := by
  obtain ⟨N, E, A, B, V, z, C, T1, T2, x, t⟩ := y
  rintro As σ ⟨⟨p1, rfl, hP, he, hlt, hx, ht, hk, hV, hVW⟩, hcn, _, _, hQ⟩ K hB hW n_
  change K n_ 0 [(0, .inr (.inr (some (E 3)))), (1, .inr (.inr (some p1)))] [] σ
  refine hB _ _ _ _ _ (fun m51 hm51 => ?_)
  dsimp only [ucgo, ucwp, ucsC, uqC, uoC, ctC, rfd, KX3_judgeName, KX3_judgeName_0, KX3_judgeName_10, KX3_judgeName_23, KX3_judgeName_38, KX3_judgeName_51, lkC, s1C, s2C, dlC, kyC, Nat.beq, Nat.ble, rcd, rno, rsw, Nat.reduceAdd, Nat.reduceBEq, Nat.reduceDiv, List.drop, List.take, List.reverse, List.reverseAux, Int.toNat, Option.toList, List.append, List.cons_append, List.nil_append, zg62, zg121, zg331, zg335, zg336]
  intro w52 τ52 o52 q52
  obtain ⟨rfl, qq52⟩ := q52 (N, E, A, B, V, z, C, x.2.1.2.1) ⟨_, rfl, hV, hx.2.1 (by omega)⟩
  rcases qq52 with ⟨hk52, rfl⟩ | ⟨hk52, rfl⟩
  · obtain ⟨vo, hvo⟩ : ∃ o, V x.2.1.2.1.toNat = o := ⟨_, rfl⟩
    have hvv := hV.2.2 x.2.1.2.1.toNat (by omega)
    have hvl := (hV.2.1.2 x.2.1.2.1.toNat (by omega)).2
    rw [hvo] at hvv hvl
    rw [hvo]
    have hw9 := hVW x.2.1.2.1.toNat (by omega)
    rw [hvo] at hw9
    try dsimp only [Option.toList, List.cons_append, List.nil_append, s1C, s2C, dlC, kyC, Nat.beq, lkC, rcd, rno, rsw]
    refine ⟨fun b53 h53 => ?_, fun h53 => ?_⟩
    · cases h53
      refine hB _ _ _ _ _ (fun m54 hm54 => ?_)
      dsimp only [ucgo, ucwp, ucsC, uqC, uoC, ctC, rfd, KX3_judgeName, KX3_judgeName_0, KX3_judgeName_10, KX3_judgeName_23, KX3_judgeName_38, KX3_judgeName_51, lkC, s1C, s2C, dlC, kyC, Nat.beq, Nat.ble, rcd, rno, rsw, Nat.reduceAdd, Nat.reduceBEq, Nat.reduceDiv, List.drop, List.take, List.reverse, List.reverseAux, Int.toNat, Option.toList, List.append, List.cons_append, List.nil_append, zg62, zg121, zg331, zg335, zg336]
      intro a55 e55 ob55
      cases e55
      have f56 : (fIC σ vo 331).toInt = (vtT C x.2.1.2.1).1 := hvv.1
      intro a57 e57 ob57 fk57
      cases e57
      clear fk57 ob57
      generalize hs57 : pIC σ p1 68 (fIC σ vo 331) = s57
      have hX57 : XuC [68, 70, 71] σ s57 p1 := XuC.pI (M := [68, 70, 71]) (XuC.rf) (by decide) hs57
      have hv57 : (fIC σ vo 331).toInt = (vtT C x.2.1.2.1).1 := by omega
      intro a58 e58 ob58
      cases e58
      have f59 : (fIC s57 vo 335).toInt = (T2 x.2.1.2.1.toNat).1 := (congrArg Int32.toInt (hX57.1 vo 335 (Or.inl (by decide))).1).trans hw9.1
      refine ⟨fun h60 => ?_, fun h60 => ?_⟩
      · have g60 := (eqI (x := (fIC s57 vo 335)) (y := 0) h60 : ((fIC s57 vo 335) : Int32).toInt = (0 : Int32).toInt)
        have z0_ : (0 : Int32).toInt = 0 := rfl
        have hc9 : (T2 x.2.1.2.1.toNat).1 = 0 := by omega
        refine hB _ _ _ _ _ (fun m61 hm61 => ?_)
        dsimp only [ucgo, ucwp, ucsC, uqC, uoC, ctC, rfd, KX3_judgeName, KX3_judgeName_0, KX3_judgeName_10, KX3_judgeName_23, KX3_judgeName_38, KX3_judgeName_51, lkC, s1C, s2C, dlC, kyC, Nat.beq, Nat.ble, rcd, rno, rsw, Nat.reduceAdd, Nat.reduceBEq, Nat.reduceDiv, List.drop, List.take, List.reverse, List.reverseAux, Int.toNat, Option.toList, List.append, List.cons_append, List.nil_append, zg62, zg121, zg331, zg335, zg336]
        try dsimp only [Qz_judgeName]
        exact fun τ9 h9 => ⟨rfl, JqC.we h9 (Or.inr ⟨((vtT C x.2.1.2.1).1, t.2), by unfold x2T; rw [if_pos hk52, if_pos hc9], XuC.er (M := [68, 70, 71]) hX57 (by decide) he, hX57, ⟨(congrArg Int32.toInt (pI_g hs57)).trans (by omega), (congrArg Int32.toInt ((pI_o hs57 (show (70 : Nat) ≠ 68 by decide)).trans rfl)).trans ht.2.1, ((pI_ol hs57).trans rfl).trans ht.2.2⟩, rfl⟩)⟩
      · have g60 := (neI (x := (fIC s57 vo 335)) (y := 0) h60 : ¬ ((fIC s57 vo 335) : Int32).toInt = (0 : Int32).toInt)
        have z0_ : (0 : Int32).toInt = 0 := rfl
        have hc9 : ¬ (T2 x.2.1.2.1.toNat).1 = 0 := by omega
        refine hB _ _ _ _ _ (fun m62 hm62 => ?_)
        dsimp only [ucgo, ucwp, ucsC, uqC, uoC, ctC, rfd, KX3_judgeName, KX3_judgeName_0, KX3_judgeName_10, KX3_judgeName_23, KX3_judgeName_38, KX3_judgeName_51, lkC, s1C, s2C, dlC, kyC, Nat.beq, Nat.ble, rcd, rno, rsw, Nat.reduceAdd, Nat.reduceBEq, Nat.reduceDiv, List.drop, List.take, List.reverse, List.reverseAux, Int.toNat, Option.toList, List.append, List.cons_append, List.nil_append, zg62, zg121, zg331, zg335, zg336]
        have c63 : (Int32.ofInt 1).toInt = 1 := by decide
        intro a64 e64 ob64 fk64
        cases e64
        clear fk64 ob64
        generalize hs64 : pIC s57 p1 70 (Int32.ofInt 1) = s64
        have hX64 : XuC [68, 70, 71] σ s64 p1 := XuC.pI (M := [68, 70, 71]) hX57 (by decide) hs64
        have hv64 : (Int32.ofInt 1).toInt = 1 := by omega
        intro a65 e65 ob65
        cases e65
        have fl66 : (fLC s64 vo 336) = fLC σ vo 336 := (hX64.1 vo 336 (Or.inl (by decide))).2.1
        intro a67 e67 ob67 fk67
        cases e67
        clear fk67 ob67
        generalize hs67 : pLC s64 p1 71 (fLC s64 vo 336) = s67
        have hX67 : XuC [68, 70, 71] σ s67 p1 := XuC.pL (M := [68, 70, 71]) hX64 (by decide) hs67
        refine hB _ _ _ _ _ (fun m68 hm68 => ?_)
        dsimp only [ucgo, ucwp, ucsC, uqC, uoC, ctC, rfd, KX3_judgeName, KX3_judgeName_0, KX3_judgeName_10, KX3_judgeName_23, KX3_judgeName_38, KX3_judgeName_51, lkC, s1C, s2C, dlC, kyC, Nat.beq, Nat.ble, rcd, rno, rsw, Nat.reduceAdd, Nat.reduceBEq, Nat.reduceDiv, List.drop, List.take, List.reverse, List.reverseAux, Int.toNat, Option.toList, List.append, List.cons_append, List.nil_append, zg62, zg121, zg331, zg335, zg336]
        try dsimp only [Qz_judgeName]
        exact fun τ9 h9 => ⟨rfl, JqC.we h9 (Or.inr ⟨((vtT C x.2.1.2.1).1, 1, (T2 x.2.1.2.1.toNat).2, t.2.2.2), by unfold x2T; rw [if_pos hk52, if_neg hc9], XuC.er (M := [68, 70, 71]) hX67 (by decide) he, hX67, ⟨(congrArg Int32.toInt ((pL_oi hs67).trans ((pI_o hs64 (by decide)).trans (pI_g hs57)))).trans (by omega), (congrArg Int32.toInt ((pL_oi hs67).trans (pI_g hs64))).trans (by omega), (pL_g hs67).trans (by first | exact hw9.2 hc9 | exact fl66.trans (hw9.2 hc9))⟩, rfl⟩)⟩
    · cases h53
  · have hkn := hk52
    try dsimp only [Option.toList, List.cons_append, List.nil_append, s1C, s2C, dlC, kyC, Nat.beq, lkC, rcd, rno, rsw]
    refine ⟨fun b69 h69 => ?_, fun h69 => ?_⟩
    · cases h69
    · skip
      refine hB _ _ _ _ _ (fun m70 hm70 => ?_)
      dsimp only [ucgo, ucwp, ucsC, uqC, uoC, ctC, rfd, KX3_judgeName, KX3_judgeName_0, KX3_judgeName_10, KX3_judgeName_23, KX3_judgeName_38, KX3_judgeName_51, lkC, s1C, s2C, dlC, kyC, Nat.beq, Nat.ble, rcd, rno, rsw, Nat.reduceAdd, Nat.reduceBEq, Nat.reduceDiv, List.drop, List.take, List.reverse, List.reverseAux, Int.toNat, Option.toList, List.append, List.cons_append, List.nil_append, zg62, zg121, zg331, zg335, zg336]
      intro a71 e71 ob71
      cases e71
      have c72 : (Int32.ofInt 3).toInt = 3 := by decide
      intro a73 e73 ob73
      cases e73
      have f74 : (fIC σ p1 62).toInt = x.1.2.2.1 := hx.1.2.2
      rw [hP.1]
      try dsimp only
      intro w75 τ75 o75 q75
      obtain ⟨rfl, hb75_⟩ := q75 (N, E, A, B, V, z) ⟨_, _, rfl, by omega⟩
      have hP75 : PjC E τ75 := hP.fr o75.2 rfl rfl
      try dsimp only [Option.toList, List.cons_append, List.nil_append, s1C, s2C, dlC, kyC, Nat.beq, lkC, rcd, rno, rsw]
      try dsimp only [Qz_judgeName]
      exact fun τ9 h9 => ⟨rfl, JqC.we h9 (Or.inl ⟨by unfold x2T; rw [if_neg hkn], hb75_⟩)⟩
theorem wz_judgeName : ∀ (L : Nat) (As : List AvC) (σ : CsC) (w : Option AvC) (τ : CsC), EvF L 55 As σ w τ → Uz_judgeName As σ w τ := by
  intro L
  cases L with
  | zero => exact fun _ _ _ _ h => h.elim
  | succ L => exact fun As σ w τ h y hy => EvF.us (cs := [51, 118]) (pz_judgeName y) rfl (List.forall_mem_cons.2 ⟨wz_variableOf L, List.forall_mem_cons.2 ⟨wz_tell L, fun _ h => absurd h List.not_mem_nil⟩⟩) h hy
abbrev Pz_judgeOfOne : ((Int → Int) × (Nat → Nat) × (Nat → Nat) × (Nat → Nat) × (Nat → Nat) × ZS × XrZ × TvT × Nat × TvT) → CpC := fun y As σ => match y with
  | (N, E, A, B, V, z, x, t, a, ta) => ∃ (p1 : Nat), As = [.inr (.inr (some (E 3))), .inr (.inr (some p1))] ∧ (PjC E σ) ∧ (fIC σ (E 1) 217 = 0) ∧ (p1 < cnC σ) ∧ (XqC σ x p1) ∧ (TwC σ p1 t) ∧ (x.1.1 = 3 ∨ x.1.1 = 4 ∨ x.1.1 = 5) ∧ (fRC σ p1 72 = some a) ∧ (a ≠ p1) ∧ (TwC σ a ta) ∧ (¬ ta.1 = -1)
abbrev Qz_judgeOfOne : ((Int → Int) × (Nat → Nat) × (Nat → Nat) × (Nat → Nat) × (Nat → Nat) × ZS × XrZ × TvT × Nat × TvT) → CqC := fun y As σ w τ => match y, As with
  | (N, E, A, B, V, z, x, t, a, ta), [_, .inr (.inr (some p1))] => w = none ∧ JqC E [68, 70, 71] σ τ p1 (o1T ta t x) (fun r => r.2.2.2 = t.2.2.2)
  | _, _ => True
abbrev Uz_judgeOfOne : CqC := fun As σ w τ => ∀ y, Pz_judgeOfOne y As σ → Qz_judgeOfOne y As σ w τ
set_option maxHeartbeats 4000000 in
theorem pz_judgeOfOne (y : (Int → Int) × (Nat → Nat) × (Nat → Nat) × (Nat → Nat) × (Nat → Nat) × ZS × XrZ × TvT × Nat × TvT) : PbC KX3_judgeOfOne [(52, TrP, EqC 52), (228, TrP, EqC 228), (57, TrP, EqC 57), (58, TrP, EqC 58), (232, TrP, EqC 232), (118, TrP, EqC 118)] [(52, Uz_isFaulty), (228, Uz_narrowed), (57, Uz_isTakenAlone), (58, Uz_promoted), (232, Uz_workedAlone), (118, Uz_tell)] (fun As σ => Pz_judgeOfOne y As σ ∧ cnC σ ≤ 1000000 ∧ ∃ w τ, uqC quL 56 As σ w τ) (Qz_judgeOfOne y) := by
  obtain ⟨N, E, A, B, V, z, x, t, a, ta⟩ := y
  rintro As σ ⟨⟨p1, rfl, hP, he, hlt, hx, ht, hk, ha, na, wa, fa⟩, hcn, _, _, hQ⟩ K hB hW n_
  have hk9 : (fIC σ p1 60).toInt = x.1.1 := hx.1.1
  have hs9 : (fIC σ p1 61).toInt = x.1.2.1 := hx.1.2.1
  have hg9 : x.1.1 = 5 → (fIC σ p1 69).toInt = x.2.1.2.2 := hx.2.2
  have ha9 : (fIC σ a 68).toInt = ta.1 := wa.1
  change K n_ 0 [(0, .inr (.inr (some (E 3)))), (1, .inr (.inr (some p1)))] [] σ
  refine hB _ _ _ _ _ (fun m51 hm51 => ?_)
  dsimp only [ucgo, ucwp, ucsC, uqC, uoC, ctC, rfd, KX3_judgeOfOne, KX3_judgeOfOne_0, KX3_judgeOfOne_12, KX3_judgeOfOne_13, KX3_judgeOfOne_21, KX3_judgeOfOne_32, KX3_judgeOfOne_45, KX3_judgeOfOne_53, KX3_judgeOfOne_64, KX3_judgeOfOne_73, KX3_judgeOfOne_82, KX3_judgeOfOne_89, KX3_judgeOfOne_96, KX3_judgeOfOne_99, KX3_judgeOfOne_116, KX3_judgeOfOne_134, KX3_judgeOfOne_145, lkC, s1C, s2C, dlC, kyC, Nat.beq, Nat.ble, rcd, rno, rsw, Nat.reduceAdd, Nat.reduceBEq, Nat.reduceDiv, List.drop, List.take, List.reverse, List.reverseAux, Int.toNat, Option.toList, List.append, List.cons_append, List.nil_append, zg60, zg61, zg62, zg68, zg69, zg70, zg71, zg72, zg121]
  intro a52 e52 ob52
  cases e52
  intro w53 τ53 o53 q53
  obtain ⟨r53, rfl, hr53, rfl⟩ := q53 (N, E, A, B, V, z) ⟨_, rfl⟩
  have hr53 : (r53.toInt = 1 ∧ (fIC σ a 68).toInt = -1) ∨ (r53.toInt = 0 ∧ ¬ (fIC σ a 68).toInt = -1) := by
    rcases hr53 with q9 | q9
    · exact Or.inl ⟨q9.1, q9.2 _ ha⟩
    · exact Or.inr ⟨q9.1, fun q8 => q9.2 (fun a9 q7 => by cases ha.symm.trans q7; exact q8)⟩
  try dsimp only [Option.toList, List.cons_append, List.nil_append, s1C, s2C, dlC, kyC, Nat.beq, lkC, rcd, rno, rsw]
  refine ⟨fun h54 => ?_, fun h54 => ?_⟩
  · have g54 := (eqI (x := r53) (y := 0) h54 : (r53 : Int32).toInt = (0 : Int32).toInt)
    have z0_ : (0 : Int32).toInt = 0 := rfl
    refine hB _ _ _ _ _ (fun m55 hm55 => ?_)
    dsimp only [ucgo, ucwp, ucsC, uqC, uoC, ctC, rfd, KX3_judgeOfOne, KX3_judgeOfOne_0, KX3_judgeOfOne_12, KX3_judgeOfOne_13, KX3_judgeOfOne_21, KX3_judgeOfOne_32, KX3_judgeOfOne_45, KX3_judgeOfOne_53, KX3_judgeOfOne_64, KX3_judgeOfOne_73, KX3_judgeOfOne_82, KX3_judgeOfOne_89, KX3_judgeOfOne_96, KX3_judgeOfOne_99, KX3_judgeOfOne_116, KX3_judgeOfOne_134, KX3_judgeOfOne_145, lkC, s1C, s2C, dlC, kyC, Nat.beq, Nat.ble, rcd, rno, rsw, Nat.reduceAdd, Nat.reduceBEq, Nat.reduceDiv, List.drop, List.take, List.reverse, List.reverseAux, Int.toNat, Option.toList, List.append, List.cons_append, List.nil_append, zg60, zg61, zg62, zg68, zg69, zg70, zg71, zg72, zg121]
    intro a56 e56 ob56
    cases e56
    have f57 : (fIC σ p1 60).toInt = x.1.1 := hx.1.1
    have c58 : (Int32.ofInt 3).toInt = 3 := by decide
    refine ⟨fun h59 => ?_, fun h59 => ?_⟩
    · have g59 := (eqI (x := (fIC σ p1 60)) (y := (Int32.ofInt 3)) h59 : ((fIC σ p1 60) : Int32).toInt = ((Int32.ofInt 3) : Int32).toInt)
      refine hB _ _ _ _ _ (fun m60 hm60 => ?_)
      dsimp only [ucgo, ucwp, ucsC, uqC, uoC, ctC, rfd, KX3_judgeOfOne, KX3_judgeOfOne_0, KX3_judgeOfOne_12, KX3_judgeOfOne_13, KX3_judgeOfOne_21, KX3_judgeOfOne_32, KX3_judgeOfOne_45, KX3_judgeOfOne_53, KX3_judgeOfOne_64, KX3_judgeOfOne_73, KX3_judgeOfOne_82, KX3_judgeOfOne_89, KX3_judgeOfOne_96, KX3_judgeOfOne_99, KX3_judgeOfOne_116, KX3_judgeOfOne_134, KX3_judgeOfOne_145, lkC, s1C, s2C, dlC, kyC, Nat.beq, Nat.ble, rcd, rno, rsw, Nat.reduceAdd, Nat.reduceBEq, Nat.reduceDiv, List.drop, List.take, List.reverse, List.reverseAux, Int.toNat, Option.toList, List.append, List.cons_append, List.nil_append, zg60, zg61, zg62, zg68, zg69, zg70, zg71, zg72, zg121]
      intro a61 e61 ob61
      cases e61
      have f62 : (fIC σ p1 60).toInt = x.1.1 := hx.1.1
      have c63 : (Int32.ofInt 5).toInt = 5 := by decide
      refine ⟨fun h64 => ?_, fun h64 => ?_⟩
      · have g64 := (neI (x := (fIC σ p1 60)) (y := (Int32.ofInt 5)) h64 : ¬ ((fIC σ p1 60) : Int32).toInt = ((Int32.ofInt 5) : Int32).toInt)
        refine hB _ _ _ _ _ (fun m65 hm65 => ?_)
        dsimp only [ucgo, ucwp, ucsC, uqC, uoC, ctC, rfd, KX3_judgeOfOne, KX3_judgeOfOne_0, KX3_judgeOfOne_12, KX3_judgeOfOne_13, KX3_judgeOfOne_21, KX3_judgeOfOne_32, KX3_judgeOfOne_45, KX3_judgeOfOne_53, KX3_judgeOfOne_64, KX3_judgeOfOne_73, KX3_judgeOfOne_82, KX3_judgeOfOne_89, KX3_judgeOfOne_96, KX3_judgeOfOne_99, KX3_judgeOfOne_116, KX3_judgeOfOne_134, KX3_judgeOfOne_145, lkC, s1C, s2C, dlC, kyC, Nat.beq, Nat.ble, rcd, rno, rsw, Nat.reduceAdd, Nat.reduceBEq, Nat.reduceDiv, List.drop, List.take, List.reverse, List.reverseAux, Int.toNat, Option.toList, List.append, List.cons_append, List.nil_append, zg60, zg61, zg62, zg68, zg69, zg70, zg71, zg72, zg121]
        intro a66 e66 ob66
        cases e66
        have f67 : (fIC σ p1 60).toInt = x.1.1 := hx.1.1
        have c68 : (Int32.ofInt 3).toInt = 3 := by decide
        refine ⟨fun h69 => ?_, fun h69 => ?_⟩
        · have g69 := (eqI (x := (fIC σ p1 60)) (y := (Int32.ofInt 3)) h69 : ((fIC σ p1 60) : Int32).toInt = ((Int32.ofInt 3) : Int32).toInt)
          refine hB _ _ _ _ _ (fun m70 hm70 => ?_)
          dsimp only [ucgo, ucwp, ucsC, uqC, uoC, ctC, rfd, KX3_judgeOfOne, KX3_judgeOfOne_0, KX3_judgeOfOne_12, KX3_judgeOfOne_13, KX3_judgeOfOne_21, KX3_judgeOfOne_32, KX3_judgeOfOne_45, KX3_judgeOfOne_53, KX3_judgeOfOne_64, KX3_judgeOfOne_73, KX3_judgeOfOne_82, KX3_judgeOfOne_89, KX3_judgeOfOne_96, KX3_judgeOfOne_99, KX3_judgeOfOne_116, KX3_judgeOfOne_134, KX3_judgeOfOne_145, lkC, s1C, s2C, dlC, kyC, Nat.beq, Nat.ble, rcd, rno, rsw, Nat.reduceAdd, Nat.reduceBEq, Nat.reduceDiv, List.drop, List.take, List.reverse, List.reverseAux, Int.toNat, Option.toList, List.append, List.cons_append, List.nil_append, zg60, zg61, zg62, zg68, zg69, zg70, zg71, zg72, zg121]
          intro a71 e71 ob71
          obtain rfl : a = a71 := Option.some.inj (ha.symm.trans e71)
          have f72 : (fIC σ a 68).toInt = ta.1 := wa.1
          refine hB _ _ _ _ _ (fun m73 hm73 => ?_)
          dsimp only [ucgo, ucwp, ucsC, uqC, uoC, ctC, rfd, KX3_judgeOfOne, KX3_judgeOfOne_0, KX3_judgeOfOne_12, KX3_judgeOfOne_13, KX3_judgeOfOne_21, KX3_judgeOfOne_32, KX3_judgeOfOne_45, KX3_judgeOfOne_53, KX3_judgeOfOne_64, KX3_judgeOfOne_73, KX3_judgeOfOne_82, KX3_judgeOfOne_89, KX3_judgeOfOne_96, KX3_judgeOfOne_99, KX3_judgeOfOne_116, KX3_judgeOfOne_134, KX3_judgeOfOne_145, lkC, s1C, s2C, dlC, kyC, Nat.beq, Nat.ble, rcd, rno, rsw, Nat.reduceAdd, Nat.reduceBEq, Nat.reduceDiv, List.drop, List.take, List.reverse, List.reverseAux, Int.toNat, Option.toList, List.append, List.cons_append, List.nil_append, zg60, zg61, zg62, zg68, zg69, zg70, zg71, zg72, zg121]
          intro a74 e74 ob74 fk74
          cases e74
          clear fk74 ob74
          generalize hs74 : pIC σ p1 68 (fIC σ a 68) = s74
          have hX74 : XuC [68, 70, 71] σ s74 p1 := XuC.pI (M := [68, 70, 71]) (XuC.rf) (by decide) hs74
          have hv74 : (fIC σ a 68).toInt = ta.1 := by omega
          refine hB _ _ _ _ _ (fun m75 hm75 => ?_)
          dsimp only [ucgo, ucwp, ucsC, uqC, uoC, ctC, rfd, KX3_judgeOfOne, KX3_judgeOfOne_0, KX3_judgeOfOne_12, KX3_judgeOfOne_13, KX3_judgeOfOne_21, KX3_judgeOfOne_32, KX3_judgeOfOne_45, KX3_judgeOfOne_53, KX3_judgeOfOne_64, KX3_judgeOfOne_73, KX3_judgeOfOne_82, KX3_judgeOfOne_89, KX3_judgeOfOne_96, KX3_judgeOfOne_99, KX3_judgeOfOne_116, KX3_judgeOfOne_134, KX3_judgeOfOne_145, lkC, s1C, s2C, dlC, kyC, Nat.beq, Nat.ble, rcd, rno, rsw, Nat.reduceAdd, Nat.reduceBEq, Nat.reduceDiv, List.drop, List.take, List.reverse, List.reverseAux, Int.toNat, Option.toList, List.append, List.cons_append, List.nil_append, zg60, zg61, zg62, zg68, zg69, zg70, zg71, zg72, zg121]
          intro a76 e76 ob76
          obtain rfl : a = a76 := Option.some.inj (ha.symm.trans e76)
          have f77 : (fIC s74 a 70).toInt = ta.2.1 := (congrArg Int32.toInt (hX74.1 a 70 (Or.inr na)).1).trans wa.2.1
          intro a78 e78 ob78 fk78
          cases e78
          clear fk78 ob78
          generalize hs78 : pIC s74 p1 70 (fIC s74 a 70) = s78
          have hX78 : XuC [68, 70, 71] σ s78 p1 := XuC.pI (M := [68, 70, 71]) hX74 (by decide) hs78
          have hv78 : (fIC s74 a 70).toInt = ta.2.1 := by omega
          intro a79 e79 ob79
          cases e79
          have f80 : (fIC s78 p1 60).toInt = x.1.1 := (congrArg Int32.toInt (hX78.1 p1 60 (Or.inl (by decide))).1).trans hx.1.1
          have c81 : (Int32.ofInt 4).toInt = 4 := by decide
          refine ⟨fun h82 => ?_, fun h82 => ?_⟩
          · have g82 := (neI (x := (fIC s78 p1 60)) (y := (Int32.ofInt 4)) h82 : ¬ ((fIC s78 p1 60) : Int32).toInt = ((Int32.ofInt 4) : Int32).toInt)
            refine hB _ _ _ _ _ (fun m83 hm83 => ?_)
            dsimp only [ucgo, ucwp, ucsC, uqC, uoC, ctC, rfd, KX3_judgeOfOne, KX3_judgeOfOne_0, KX3_judgeOfOne_12, KX3_judgeOfOne_13, KX3_judgeOfOne_21, KX3_judgeOfOne_32, KX3_judgeOfOne_45, KX3_judgeOfOne_53, KX3_judgeOfOne_64, KX3_judgeOfOne_73, KX3_judgeOfOne_82, KX3_judgeOfOne_89, KX3_judgeOfOne_96, KX3_judgeOfOne_99, KX3_judgeOfOne_116, KX3_judgeOfOne_134, KX3_judgeOfOne_145, lkC, s1C, s2C, dlC, kyC, Nat.beq, Nat.ble, rcd, rno, rsw, Nat.reduceAdd, Nat.reduceBEq, Nat.reduceDiv, List.drop, List.take, List.reverse, List.reverseAux, Int.toNat, Option.toList, List.append, List.cons_append, List.nil_append, zg60, zg61, zg62, zg68, zg69, zg70, zg71, zg72, zg121]
            intro a84 e84 ob84
            cases e84
            have f85 : (fIC s78 p1 68).toInt = ta.1 := congrArg Int32.toInt ((pI_o hs78 (by decide)).trans (pI_g hs74)) |>.trans hv74
            intro a86 e86 ob86
            obtain rfl : a = a86 := Option.some.inj (ha.symm.trans e86)
            have fl87 : (fLC s78 a 71) = fLC σ a 71 := (hX78.1 a 71 (Or.inr na)).2.1
            intro w88 τ88 o88 q88
            have hva88 : (fLC s78 a 71) = ta.2.2.1 := by first | exact wa.2.2 | exact fl87.trans wa.2.2
            obtain ⟨r88, rfl, hr88, rfl⟩ := q88 (N, E, A, B, V, z) ⟨_, _, rfl⟩
            try dsimp only [Option.toList, List.cons_append, List.nil_append, s1C, s2C, dlC, kyC, Nat.beq, lkC, rcd, rno, rsw]
            refine hB _ _ _ _ _ (fun m89 hm89 => ?_)
            dsimp only [ucgo, ucwp, ucsC, uqC, uoC, ctC, rfd, KX3_judgeOfOne, KX3_judgeOfOne_0, KX3_judgeOfOne_12, KX3_judgeOfOne_13, KX3_judgeOfOne_21, KX3_judgeOfOne_32, KX3_judgeOfOne_45, KX3_judgeOfOne_53, KX3_judgeOfOne_64, KX3_judgeOfOne_73, KX3_judgeOfOne_82, KX3_judgeOfOne_89, KX3_judgeOfOne_96, KX3_judgeOfOne_99, KX3_judgeOfOne_116, KX3_judgeOfOne_134, KX3_judgeOfOne_145, lkC, s1C, s2C, dlC, kyC, Nat.beq, Nat.ble, rcd, rno, rsw, Nat.reduceAdd, Nat.reduceBEq, Nat.reduceDiv, List.drop, List.take, List.reverse, List.reverseAux, Int.toNat, Option.toList, List.append, List.cons_append, List.nil_append, zg60, zg61, zg62, zg68, zg69, zg70, zg71, zg72, zg121]
            intro a90 e90 ob90 fk90
            cases e90
            clear fk90 ob90
            generalize hs90 : pLC s78 p1 71 r88 = s90
            have hX90 : XuC [68, 70, 71] σ s90 p1 := XuC.pL (M := [68, 70, 71]) hX78 (by decide) hs90
            try dsimp only [Qz_judgeOfOne]
            exact fun τ9 h9 => ⟨rfl, JqC.we h9 (Or.inr ⟨(ta.1, ta.2.1, nrT ta.1 ta.2.2.1, t.2.2.2), by unfold o1T; rw [if_pos (by omega)]; rfl, XuC.er (M := [68, 70, 71]) hX90 (by decide) he, hX90, ⟨(congrArg Int32.toInt ((pL_oi hs90).trans ((pI_o hs78 (by decide)).trans (pI_g hs74)))).trans (by omega), (congrArg Int32.toInt ((pL_oi hs90).trans (pI_g hs78))).trans (by omega), (pL_g hs90).trans (by rw [hr88, hva88]; exact congrArg (fun q => nrT q ta.2.2.1) (show (fIC s78 p1 68).toInt = ta.1 by omega))⟩, rfl⟩)⟩
          · have g82 := (eqI (x := (fIC s78 p1 60)) (y := (Int32.ofInt 4)) h82 : ((fIC s78 p1 60) : Int32).toInt = ((Int32.ofInt 4) : Int32).toInt)
            exfalso
            omega
        · have g69 := (neI (x := (fIC σ p1 60)) (y := (Int32.ofInt 3)) h69 : ¬ ((fIC σ p1 60) : Int32).toInt = ((Int32.ofInt 3) : Int32).toInt)
          exfalso
          omega
      · have g64 := (eqI (x := (fIC σ p1 60)) (y := (Int32.ofInt 5)) h64 : ((fIC σ p1 60) : Int32).toInt = ((Int32.ofInt 5) : Int32).toInt)
        exfalso
        omega
    · have g59 := (neI (x := (fIC σ p1 60)) (y := (Int32.ofInt 3)) h59 : ¬ ((fIC σ p1 60) : Int32).toInt = ((Int32.ofInt 3) : Int32).toInt)
      refine hB _ _ _ _ _ (fun m91 hm91 => ?_)
      dsimp only [ucgo, ucwp, ucsC, uqC, uoC, ctC, rfd, KX3_judgeOfOne, KX3_judgeOfOne_0, KX3_judgeOfOne_12, KX3_judgeOfOne_13, KX3_judgeOfOne_21, KX3_judgeOfOne_32, KX3_judgeOfOne_45, KX3_judgeOfOne_53, KX3_judgeOfOne_64, KX3_judgeOfOne_73, KX3_judgeOfOne_82, KX3_judgeOfOne_89, KX3_judgeOfOne_96, KX3_judgeOfOne_99, KX3_judgeOfOne_116, KX3_judgeOfOne_134, KX3_judgeOfOne_145, lkC, s1C, s2C, dlC, kyC, Nat.beq, Nat.ble, rcd, rno, rsw, Nat.reduceAdd, Nat.reduceBEq, Nat.reduceDiv, List.drop, List.take, List.reverse, List.reverseAux, Int.toNat, Option.toList, List.append, List.cons_append, List.nil_append, zg60, zg61, zg62, zg68, zg69, zg70, zg71, zg72, zg121]
      intro a92 e92 ob92
      obtain rfl : a = a92 := Option.some.inj (ha.symm.trans e92)
      have f93 : (fIC σ a 68).toInt = ta.1 := wa.1
      intro w94 τ94 o94 q94
      obtain ⟨r94, rfl, hr94, rfl⟩ := q94 (N, E, A, B, V, z) ⟨_, _, rfl⟩
      try dsimp only [Option.toList, List.cons_append, List.nil_append, s1C, s2C, dlC, kyC, Nat.beq, lkC, rcd, rno, rsw]
      refine ⟨fun h95 => ?_, fun h95 => ?_⟩
      · have g95 := (neI (x := r94) (y := 0) h95 : ¬ (r94 : Int32).toInt = (0 : Int32).toInt)
        have z0_ : (0 : Int32).toInt = 0 := rfl
        refine hB _ _ _ _ _ (fun m96 hm96 => ?_)
        dsimp only [ucgo, ucwp, ucsC, uqC, uoC, ctC, rfd, KX3_judgeOfOne, KX3_judgeOfOne_0, KX3_judgeOfOne_12, KX3_judgeOfOne_13, KX3_judgeOfOne_21, KX3_judgeOfOne_32, KX3_judgeOfOne_45, KX3_judgeOfOne_53, KX3_judgeOfOne_64, KX3_judgeOfOne_73, KX3_judgeOfOne_82, KX3_judgeOfOne_89, KX3_judgeOfOne_96, KX3_judgeOfOne_99, KX3_judgeOfOne_116, KX3_judgeOfOne_134, KX3_judgeOfOne_145, lkC, s1C, s2C, dlC, kyC, Nat.beq, Nat.ble, rcd, rno, rsw, Nat.reduceAdd, Nat.reduceBEq, Nat.reduceDiv, List.drop, List.take, List.reverse, List.reverseAux, Int.toNat, Option.toList, List.append, List.cons_append, List.nil_append, zg60, zg61, zg62, zg68, zg69, zg70, zg71, zg72, zg121]
        intro a97 e97 ob97
        cases e97
        have f98 : (fIC σ p1 60).toInt = x.1.1 := hx.1.1
        have c99 : (Int32.ofInt 5).toInt = 5 := by decide
        refine ⟨fun h100 => ?_, fun h100 => ?_⟩
        · have g100 := (neI (x := (fIC σ p1 60)) (y := (Int32.ofInt 5)) h100 : ¬ ((fIC σ p1 60) : Int32).toInt = ((Int32.ofInt 5) : Int32).toInt)
          refine hB _ _ _ _ _ (fun m101 hm101 => ?_)
          dsimp only [ucgo, ucwp, ucsC, uqC, uoC, ctC, rfd, KX3_judgeOfOne, KX3_judgeOfOne_0, KX3_judgeOfOne_12, KX3_judgeOfOne_13, KX3_judgeOfOne_21, KX3_judgeOfOne_32, KX3_judgeOfOne_45, KX3_judgeOfOne_53, KX3_judgeOfOne_64, KX3_judgeOfOne_73, KX3_judgeOfOne_82, KX3_judgeOfOne_89, KX3_judgeOfOne_96, KX3_judgeOfOne_99, KX3_judgeOfOne_116, KX3_judgeOfOne_134, KX3_judgeOfOne_145, lkC, s1C, s2C, dlC, kyC, Nat.beq, Nat.ble, rcd, rno, rsw, Nat.reduceAdd, Nat.reduceBEq, Nat.reduceDiv, List.drop, List.take, List.reverse, List.reverseAux, Int.toNat, Option.toList, List.append, List.cons_append, List.nil_append, zg60, zg61, zg62, zg68, zg69, zg70, zg71, zg72, zg121]
          intro a102 e102 ob102
          cases e102
          have f103 : (fIC σ p1 60).toInt = x.1.1 := hx.1.1
          have c104 : (Int32.ofInt 3).toInt = 3 := by decide
          refine ⟨fun h105 => ?_, fun h105 => ?_⟩
          · have g105 := (eqI (x := (fIC σ p1 60)) (y := (Int32.ofInt 3)) h105 : ((fIC σ p1 60) : Int32).toInt = ((Int32.ofInt 3) : Int32).toInt)
            exfalso
            omega
          · have g105 := (neI (x := (fIC σ p1 60)) (y := (Int32.ofInt 3)) h105 : ¬ ((fIC σ p1 60) : Int32).toInt = ((Int32.ofInt 3) : Int32).toInt)
            refine hB _ _ _ _ _ (fun m106 hm106 => ?_)
            dsimp only [ucgo, ucwp, ucsC, uqC, uoC, ctC, rfd, KX3_judgeOfOne, KX3_judgeOfOne_0, KX3_judgeOfOne_12, KX3_judgeOfOne_13, KX3_judgeOfOne_21, KX3_judgeOfOne_32, KX3_judgeOfOne_45, KX3_judgeOfOne_53, KX3_judgeOfOne_64, KX3_judgeOfOne_73, KX3_judgeOfOne_82, KX3_judgeOfOne_89, KX3_judgeOfOne_96, KX3_judgeOfOne_99, KX3_judgeOfOne_116, KX3_judgeOfOne_134, KX3_judgeOfOne_145, lkC, s1C, s2C, dlC, kyC, Nat.beq, Nat.ble, rcd, rno, rsw, Nat.reduceAdd, Nat.reduceBEq, Nat.reduceDiv, List.drop, List.take, List.reverse, List.reverseAux, Int.toNat, Option.toList, List.append, List.cons_append, List.nil_append, zg60, zg61, zg62, zg68, zg69, zg70, zg71, zg72, zg121]
            intro a107 e107 ob107
            cases e107
            have f108 : (fIC σ p1 61).toInt = x.1.2.1 := hx.1.2.1
            have c109 : (Int32.ofInt 39).toInt = 39 := by decide
            refine ⟨fun h110 => ?_, fun h110 => ?_⟩
            · have g110 := (neI (x := (fIC σ p1 61)) (y := (Int32.ofInt 39)) h110 : ¬ ((fIC σ p1 61) : Int32).toInt = ((Int32.ofInt 39) : Int32).toInt)
              refine hB _ _ _ _ _ (fun m111 hm111 => ?_)
              dsimp only [ucgo, ucwp, ucsC, uqC, uoC, ctC, rfd, KX3_judgeOfOne, KX3_judgeOfOne_0, KX3_judgeOfOne_12, KX3_judgeOfOne_13, KX3_judgeOfOne_21, KX3_judgeOfOne_32, KX3_judgeOfOne_45, KX3_judgeOfOne_53, KX3_judgeOfOne_64, KX3_judgeOfOne_73, KX3_judgeOfOne_82, KX3_judgeOfOne_89, KX3_judgeOfOne_96, KX3_judgeOfOne_99, KX3_judgeOfOne_116, KX3_judgeOfOne_134, KX3_judgeOfOne_145, lkC, s1C, s2C, dlC, kyC, Nat.beq, Nat.ble, rcd, rno, rsw, Nat.reduceAdd, Nat.reduceBEq, Nat.reduceDiv, List.drop, List.take, List.reverse, List.reverseAux, Int.toNat, Option.toList, List.append, List.cons_append, List.nil_append, zg60, zg61, zg62, zg68, zg69, zg70, zg71, zg72, zg121]
              intro a112 e112 ob112
              obtain rfl : a = a112 := Option.some.inj (ha.symm.trans e112)
              have f113 : (fIC σ a 68).toInt = ta.1 := wa.1
              intro w114 τ114 o114 q114
              obtain ⟨r114, rfl, hr114, rfl⟩ := q114 (N, E, A, B, V, z) ⟨_, rfl⟩
              rw [show (fIC σ a 68).toInt = ta.1 by omega] at hr114
              try dsimp only [Option.toList, List.cons_append, List.nil_append, s1C, s2C, dlC, kyC, Nat.beq, lkC, rcd, rno, rsw]
              refine hB _ _ _ _ _ (fun m115 hm115 => ?_)
              dsimp only [ucgo, ucwp, ucsC, uqC, uoC, ctC, rfd, KX3_judgeOfOne, KX3_judgeOfOne_0, KX3_judgeOfOne_12, KX3_judgeOfOne_13, KX3_judgeOfOne_21, KX3_judgeOfOne_32, KX3_judgeOfOne_45, KX3_judgeOfOne_53, KX3_judgeOfOne_64, KX3_judgeOfOne_73, KX3_judgeOfOne_82, KX3_judgeOfOne_89, KX3_judgeOfOne_96, KX3_judgeOfOne_99, KX3_judgeOfOne_116, KX3_judgeOfOne_134, KX3_judgeOfOne_145, lkC, s1C, s2C, dlC, kyC, Nat.beq, Nat.ble, rcd, rno, rsw, Nat.reduceAdd, Nat.reduceBEq, Nat.reduceDiv, List.drop, List.take, List.reverse, List.reverseAux, Int.toNat, Option.toList, List.append, List.cons_append, List.nil_append, zg60, zg61, zg62, zg68, zg69, zg70, zg71, zg72, zg121]
              intro a116 e116 ob116 fk116
              cases e116
              clear fk116 ob116
              generalize hs116 : pIC σ p1 68 r114 = s116
              have hX116 : XuC [68, 70, 71] σ s116 p1 := XuC.pI (M := [68, 70, 71]) (XuC.rf) (by decide) hs116
              have hv116 : r114.toInt = pmT ta.1 := by omega
              refine hB _ _ _ _ _ (fun m117 hm117 => ?_)
              dsimp only [ucgo, ucwp, ucsC, uqC, uoC, ctC, rfd, KX3_judgeOfOne, KX3_judgeOfOne_0, KX3_judgeOfOne_12, KX3_judgeOfOne_13, KX3_judgeOfOne_21, KX3_judgeOfOne_32, KX3_judgeOfOne_45, KX3_judgeOfOne_53, KX3_judgeOfOne_64, KX3_judgeOfOne_73, KX3_judgeOfOne_82, KX3_judgeOfOne_89, KX3_judgeOfOne_96, KX3_judgeOfOne_99, KX3_judgeOfOne_116, KX3_judgeOfOne_134, KX3_judgeOfOne_145, lkC, s1C, s2C, dlC, kyC, Nat.beq, Nat.ble, rcd, rno, rsw, Nat.reduceAdd, Nat.reduceBEq, Nat.reduceDiv, List.drop, List.take, List.reverse, List.reverseAux, Int.toNat, Option.toList, List.append, List.cons_append, List.nil_append, zg60, zg61, zg62, zg68, zg69, zg70, zg71, zg72, zg121]
              intro a118 e118 ob118
              obtain rfl : a = a118 := Option.some.inj (ha.symm.trans e118)
              have f119 : (fIC s116 a 70).toInt = ta.2.1 := (congrArg Int32.toInt (hX116.1 a 70 (Or.inr na)).1).trans wa.2.1
              intro a120 e120 ob120 fk120
              cases e120
              clear fk120 ob120
              generalize hs120 : pIC s116 p1 70 (fIC s116 a 70) = s120
              have hX120 : XuC [68, 70, 71] σ s120 p1 := XuC.pI (M := [68, 70, 71]) hX116 (by decide) hs120
              have hv120 : (fIC s116 a 70).toInt = ta.2.1 := by omega
              intro a121 e121 ob121
              cases e121
              have f122 : (fIC s120 p1 60).toInt = x.1.1 := (congrArg Int32.toInt (hX120.1 p1 60 (Or.inl (by decide))).1).trans hx.1.1
              have c123 : (Int32.ofInt 4).toInt = 4 := by decide
              refine ⟨fun h124 => ?_, fun h124 => ?_⟩
              · have g124 := (neI (x := (fIC s120 p1 60)) (y := (Int32.ofInt 4)) h124 : ¬ ((fIC s120 p1 60) : Int32).toInt = ((Int32.ofInt 4) : Int32).toInt)
                exfalso
                omega
              · have g124 := (eqI (x := (fIC s120 p1 60)) (y := (Int32.ofInt 4)) h124 : ((fIC s120 p1 60) : Int32).toInt = ((Int32.ofInt 4) : Int32).toInt)
                refine hB _ _ _ _ _ (fun m125 hm125 => ?_)
                dsimp only [ucgo, ucwp, ucsC, uqC, uoC, ctC, rfd, KX3_judgeOfOne, KX3_judgeOfOne_0, KX3_judgeOfOne_12, KX3_judgeOfOne_13, KX3_judgeOfOne_21, KX3_judgeOfOne_32, KX3_judgeOfOne_45, KX3_judgeOfOne_53, KX3_judgeOfOne_64, KX3_judgeOfOne_73, KX3_judgeOfOne_82, KX3_judgeOfOne_89, KX3_judgeOfOne_96, KX3_judgeOfOne_99, KX3_judgeOfOne_116, KX3_judgeOfOne_134, KX3_judgeOfOne_145, lkC, s1C, s2C, dlC, kyC, Nat.beq, Nat.ble, rcd, rno, rsw, Nat.reduceAdd, Nat.reduceBEq, Nat.reduceDiv, List.drop, List.take, List.reverse, List.reverseAux, Int.toNat, Option.toList, List.append, List.cons_append, List.nil_append, zg60, zg61, zg62, zg68, zg69, zg70, zg71, zg72, zg121]
                intro a126 e126 ob126
                cases e126
                have f127 : (fIC s120 p1 61).toInt = x.1.2.1 := (congrArg Int32.toInt (hX120.1 p1 61 (Or.inl (by decide))).1).trans hx.1.2.1
                intro a128 e128 ob128
                cases e128
                have f129 : (fIC s120 p1 68).toInt = pmT ta.1 := congrArg Int32.toInt ((pI_o hs120 (by decide)).trans (pI_g hs116)) |>.trans hv116
                intro a130 e130 ob130
                obtain rfl : a = a130 := Option.some.inj (ha.symm.trans e130)
                have fl131 : (fLC s120 a 71) = fLC σ a 71 := (hX120.1 a 71 (Or.inr na)).2.1
                intro w132 τ132 o132 q132
                have hva132 : (fLC s120 a 71) = ta.2.2.1 := by first | exact wa.2.2 | exact fl131.trans wa.2.2
                obtain ⟨r132, rfl, hr132, rfl⟩ := q132 (N, E, A, B, V, z) ⟨_, _, _, rfl⟩
                try dsimp only [Option.toList, List.cons_append, List.nil_append, s1C, s2C, dlC, kyC, Nat.beq, lkC, rcd, rno, rsw]
                refine hB _ _ _ _ _ (fun m133 hm133 => ?_)
                dsimp only [ucgo, ucwp, ucsC, uqC, uoC, ctC, rfd, KX3_judgeOfOne, KX3_judgeOfOne_0, KX3_judgeOfOne_12, KX3_judgeOfOne_13, KX3_judgeOfOne_21, KX3_judgeOfOne_32, KX3_judgeOfOne_45, KX3_judgeOfOne_53, KX3_judgeOfOne_64, KX3_judgeOfOne_73, KX3_judgeOfOne_82, KX3_judgeOfOne_89, KX3_judgeOfOne_96, KX3_judgeOfOne_99, KX3_judgeOfOne_116, KX3_judgeOfOne_134, KX3_judgeOfOne_145, lkC, s1C, s2C, dlC, kyC, Nat.beq, Nat.ble, rcd, rno, rsw, Nat.reduceAdd, Nat.reduceBEq, Nat.reduceDiv, List.drop, List.take, List.reverse, List.reverseAux, Int.toNat, Option.toList, List.append, List.cons_append, List.nil_append, zg60, zg61, zg62, zg68, zg69, zg70, zg71, zg72, zg121]
                intro a134 e134 ob134 fk134
                cases e134
                clear fk134 ob134
                generalize hs134 : pLC s120 p1 71 r132 = s134
                have hX134 : XuC [68, 70, 71] σ s134 p1 := XuC.pL (M := [68, 70, 71]) hX120 (by decide) hs134
                try dsimp only [Qz_judgeOfOne]
                have hau : pmT ta.1 = auT x.1.2.1 ta.1 := by unfold auT; first | (rw [if_pos (by omega)]) | (rw [if_neg (by omega)])
                exact fun τ9 h9 => ⟨rfl, JqC.we h9 (Or.inr ⟨(auT x.1.2.1 ta.1, ta.2.1, alT x.1.2.1 (auT x.1.2.1 ta.1) ta.2.2.1, t.2.2.2), by unfold o1T; rw [if_neg (by omega), if_pos (by omega)]; unfold x4T; rw [if_pos (by unfold nuT at *; omega)], XuC.er (M := [68, 70, 71]) hX134 (by decide) he, hX134, ⟨(congrArg Int32.toInt ((pL_oi hs134).trans ((pI_o hs120 (by decide)).trans (pI_g hs116)))).trans (by rw [← hau]; omega), (congrArg Int32.toInt ((pL_oi hs134).trans (pI_g hs120))).trans (by omega), (pL_g hs134).trans (by rw [hr132, hva132, show (fIC s120 p1 61).toInt = x.1.2.1 by omega, show (fIC s120 p1 68).toInt = auT x.1.2.1 ta.1 by rw [← hau]; omega])⟩, rfl⟩)⟩
            · have g110 := (eqI (x := (fIC σ p1 61)) (y := (Int32.ofInt 39)) h110 : ((fIC σ p1 61) : Int32).toInt = ((Int32.ofInt 39) : Int32).toInt)
              refine hB _ _ _ _ _ (fun m135 hm135 => ?_)
              dsimp only [ucgo, ucwp, ucsC, uqC, uoC, ctC, rfd, KX3_judgeOfOne, KX3_judgeOfOne_0, KX3_judgeOfOne_12, KX3_judgeOfOne_13, KX3_judgeOfOne_21, KX3_judgeOfOne_32, KX3_judgeOfOne_45, KX3_judgeOfOne_53, KX3_judgeOfOne_64, KX3_judgeOfOne_73, KX3_judgeOfOne_82, KX3_judgeOfOne_89, KX3_judgeOfOne_96, KX3_judgeOfOne_99, KX3_judgeOfOne_116, KX3_judgeOfOne_134, KX3_judgeOfOne_145, lkC, s1C, s2C, dlC, kyC, Nat.beq, Nat.ble, rcd, rno, rsw, Nat.reduceAdd, Nat.reduceBEq, Nat.reduceDiv, List.drop, List.take, List.reverse, List.reverseAux, Int.toNat, Option.toList, List.append, List.cons_append, List.nil_append, zg60, zg61, zg62, zg68, zg69, zg70, zg71, zg72, zg121]
              intro a136 e136 ob136
              obtain rfl : a = a136 := Option.some.inj (ha.symm.trans e136)
              have f137 : (fIC σ a 68).toInt = ta.1 := wa.1
              refine hB _ _ _ _ _ (fun m138 hm138 => ?_)
              dsimp only [ucgo, ucwp, ucsC, uqC, uoC, ctC, rfd, KX3_judgeOfOne, KX3_judgeOfOne_0, KX3_judgeOfOne_12, KX3_judgeOfOne_13, KX3_judgeOfOne_21, KX3_judgeOfOne_32, KX3_judgeOfOne_45, KX3_judgeOfOne_53, KX3_judgeOfOne_64, KX3_judgeOfOne_73, KX3_judgeOfOne_82, KX3_judgeOfOne_89, KX3_judgeOfOne_96, KX3_judgeOfOne_99, KX3_judgeOfOne_116, KX3_judgeOfOne_134, KX3_judgeOfOne_145, lkC, s1C, s2C, dlC, kyC, Nat.beq, Nat.ble, rcd, rno, rsw, Nat.reduceAdd, Nat.reduceBEq, Nat.reduceDiv, List.drop, List.take, List.reverse, List.reverseAux, Int.toNat, Option.toList, List.append, List.cons_append, List.nil_append, zg60, zg61, zg62, zg68, zg69, zg70, zg71, zg72, zg121]
              intro a139 e139 ob139 fk139
              cases e139
              clear fk139 ob139
              generalize hs139 : pIC σ p1 68 (fIC σ a 68) = s139
              have hX139 : XuC [68, 70, 71] σ s139 p1 := XuC.pI (M := [68, 70, 71]) (XuC.rf) (by decide) hs139
              have hv139 : (fIC σ a 68).toInt = ta.1 := by omega
              refine hB _ _ _ _ _ (fun m140 hm140 => ?_)
              dsimp only [ucgo, ucwp, ucsC, uqC, uoC, ctC, rfd, KX3_judgeOfOne, KX3_judgeOfOne_0, KX3_judgeOfOne_12, KX3_judgeOfOne_13, KX3_judgeOfOne_21, KX3_judgeOfOne_32, KX3_judgeOfOne_45, KX3_judgeOfOne_53, KX3_judgeOfOne_64, KX3_judgeOfOne_73, KX3_judgeOfOne_82, KX3_judgeOfOne_89, KX3_judgeOfOne_96, KX3_judgeOfOne_99, KX3_judgeOfOne_116, KX3_judgeOfOne_134, KX3_judgeOfOne_145, lkC, s1C, s2C, dlC, kyC, Nat.beq, Nat.ble, rcd, rno, rsw, Nat.reduceAdd, Nat.reduceBEq, Nat.reduceDiv, List.drop, List.take, List.reverse, List.reverseAux, Int.toNat, Option.toList, List.append, List.cons_append, List.nil_append, zg60, zg61, zg62, zg68, zg69, zg70, zg71, zg72, zg121]
              intro a141 e141 ob141
              obtain rfl : a = a141 := Option.some.inj (ha.symm.trans e141)
              have f142 : (fIC s139 a 70).toInt = ta.2.1 := (congrArg Int32.toInt (hX139.1 a 70 (Or.inr na)).1).trans wa.2.1
              intro a143 e143 ob143 fk143
              cases e143
              clear fk143 ob143
              generalize hs143 : pIC s139 p1 70 (fIC s139 a 70) = s143
              have hX143 : XuC [68, 70, 71] σ s143 p1 := XuC.pI (M := [68, 70, 71]) hX139 (by decide) hs143
              have hv143 : (fIC s139 a 70).toInt = ta.2.1 := by omega
              intro a144 e144 ob144
              cases e144
              have f145 : (fIC s143 p1 60).toInt = x.1.1 := (congrArg Int32.toInt (hX143.1 p1 60 (Or.inl (by decide))).1).trans hx.1.1
              have c146 : (Int32.ofInt 4).toInt = 4 := by decide
              refine ⟨fun h147 => ?_, fun h147 => ?_⟩
              · have g147 := (neI (x := (fIC s143 p1 60)) (y := (Int32.ofInt 4)) h147 : ¬ ((fIC s143 p1 60) : Int32).toInt = ((Int32.ofInt 4) : Int32).toInt)
                exfalso
                omega
              · have g147 := (eqI (x := (fIC s143 p1 60)) (y := (Int32.ofInt 4)) h147 : ((fIC s143 p1 60) : Int32).toInt = ((Int32.ofInt 4) : Int32).toInt)
                refine hB _ _ _ _ _ (fun m148 hm148 => ?_)
                dsimp only [ucgo, ucwp, ucsC, uqC, uoC, ctC, rfd, KX3_judgeOfOne, KX3_judgeOfOne_0, KX3_judgeOfOne_12, KX3_judgeOfOne_13, KX3_judgeOfOne_21, KX3_judgeOfOne_32, KX3_judgeOfOne_45, KX3_judgeOfOne_53, KX3_judgeOfOne_64, KX3_judgeOfOne_73, KX3_judgeOfOne_82, KX3_judgeOfOne_89, KX3_judgeOfOne_96, KX3_judgeOfOne_99, KX3_judgeOfOne_116, KX3_judgeOfOne_134, KX3_judgeOfOne_145, lkC, s1C, s2C, dlC, kyC, Nat.beq, Nat.ble, rcd, rno, rsw, Nat.reduceAdd, Nat.reduceBEq, Nat.reduceDiv, List.drop, List.take, List.reverse, List.reverseAux, Int.toNat, Option.toList, List.append, List.cons_append, List.nil_append, zg60, zg61, zg62, zg68, zg69, zg70, zg71, zg72, zg121]
                intro a149 e149 ob149
                cases e149
                have f150 : (fIC s143 p1 61).toInt = x.1.2.1 := (congrArg Int32.toInt (hX143.1 p1 61 (Or.inl (by decide))).1).trans hx.1.2.1
                intro a151 e151 ob151
                cases e151
                have f152 : (fIC s143 p1 68).toInt = ta.1 := congrArg Int32.toInt ((pI_o hs143 (by decide)).trans (pI_g hs139)) |>.trans hv139
                intro a153 e153 ob153
                obtain rfl : a = a153 := Option.some.inj (ha.symm.trans e153)
                have fl154 : (fLC s143 a 71) = fLC σ a 71 := (hX143.1 a 71 (Or.inr na)).2.1
                intro w155 τ155 o155 q155
                have hva155 : (fLC s143 a 71) = ta.2.2.1 := by first | exact wa.2.2 | exact fl154.trans wa.2.2
                obtain ⟨r155, rfl, hr155, rfl⟩ := q155 (N, E, A, B, V, z) ⟨_, _, _, rfl⟩
                try dsimp only [Option.toList, List.cons_append, List.nil_append, s1C, s2C, dlC, kyC, Nat.beq, lkC, rcd, rno, rsw]
                refine hB _ _ _ _ _ (fun m156 hm156 => ?_)
                dsimp only [ucgo, ucwp, ucsC, uqC, uoC, ctC, rfd, KX3_judgeOfOne, KX3_judgeOfOne_0, KX3_judgeOfOne_12, KX3_judgeOfOne_13, KX3_judgeOfOne_21, KX3_judgeOfOne_32, KX3_judgeOfOne_45, KX3_judgeOfOne_53, KX3_judgeOfOne_64, KX3_judgeOfOne_73, KX3_judgeOfOne_82, KX3_judgeOfOne_89, KX3_judgeOfOne_96, KX3_judgeOfOne_99, KX3_judgeOfOne_116, KX3_judgeOfOne_134, KX3_judgeOfOne_145, lkC, s1C, s2C, dlC, kyC, Nat.beq, Nat.ble, rcd, rno, rsw, Nat.reduceAdd, Nat.reduceBEq, Nat.reduceDiv, List.drop, List.take, List.reverse, List.reverseAux, Int.toNat, Option.toList, List.append, List.cons_append, List.nil_append, zg60, zg61, zg62, zg68, zg69, zg70, zg71, zg72, zg121]
                intro a157 e157 ob157 fk157
                cases e157
                clear fk157 ob157
                generalize hs157 : pLC s143 p1 71 r155 = s157
                have hX157 : XuC [68, 70, 71] σ s157 p1 := XuC.pL (M := [68, 70, 71]) hX143 (by decide) hs157
                try dsimp only [Qz_judgeOfOne]
                have hau : ta.1 = auT x.1.2.1 ta.1 := by unfold auT; first | (rw [if_pos (by omega)]) | (rw [if_neg (by omega)])
                exact fun τ9 h9 => ⟨rfl, JqC.we h9 (Or.inr ⟨(auT x.1.2.1 ta.1, ta.2.1, alT x.1.2.1 (auT x.1.2.1 ta.1) ta.2.2.1, t.2.2.2), by unfold o1T; rw [if_neg (by omega), if_pos (by omega)]; unfold x4T; rw [if_pos (by unfold nuT at *; omega)], XuC.er (M := [68, 70, 71]) hX157 (by decide) he, hX157, ⟨(congrArg Int32.toInt ((pL_oi hs157).trans ((pI_o hs143 (by decide)).trans (pI_g hs139)))).trans (by rw [← hau]; omega), (congrArg Int32.toInt ((pL_oi hs157).trans (pI_g hs143))).trans (by omega), (pL_g hs157).trans (by rw [hr155, hva155, show (fIC s143 p1 61).toInt = x.1.2.1 by omega, show (fIC s143 p1 68).toInt = auT x.1.2.1 ta.1 by rw [← hau]; omega])⟩, rfl⟩)⟩
        · have g100 := (eqI (x := (fIC σ p1 60)) (y := (Int32.ofInt 5)) h100 : ((fIC σ p1 60) : Int32).toInt = ((Int32.ofInt 5) : Int32).toInt)
          refine hB _ _ _ _ _ (fun m158 hm158 => ?_)
          dsimp only [ucgo, ucwp, ucsC, uqC, uoC, ctC, rfd, KX3_judgeOfOne, KX3_judgeOfOne_0, KX3_judgeOfOne_12, KX3_judgeOfOne_13, KX3_judgeOfOne_21, KX3_judgeOfOne_32, KX3_judgeOfOne_45, KX3_judgeOfOne_53, KX3_judgeOfOne_64, KX3_judgeOfOne_73, KX3_judgeOfOne_82, KX3_judgeOfOne_89, KX3_judgeOfOne_96, KX3_judgeOfOne_99, KX3_judgeOfOne_116, KX3_judgeOfOne_134, KX3_judgeOfOne_145, lkC, s1C, s2C, dlC, kyC, Nat.beq, Nat.ble, rcd, rno, rsw, Nat.reduceAdd, Nat.reduceBEq, Nat.reduceDiv, List.drop, List.take, List.reverse, List.reverseAux, Int.toNat, Option.toList, List.append, List.cons_append, List.nil_append, zg60, zg61, zg62, zg68, zg69, zg70, zg71, zg72, zg121]
          intro a159 e159 ob159
          cases e159
          intro a161 e161 ob161 fk161
          cases e161
          clear fk161 ob161
          generalize hs161 : pIC σ p1 68 (fIC σ p1 69) = s161
          have hX161 : XuC [68, 70, 71] σ s161 p1 := XuC.pI (M := [68, 70, 71]) (XuC.rf) (by decide) hs161
          have hv161 : (fIC σ p1 69).toInt = (fIC σ p1 69).toInt := by omega
          refine hB _ _ _ _ _ (fun m162 hm162 => ?_)
          dsimp only [ucgo, ucwp, ucsC, uqC, uoC, ctC, rfd, KX3_judgeOfOne, KX3_judgeOfOne_0, KX3_judgeOfOne_12, KX3_judgeOfOne_13, KX3_judgeOfOne_21, KX3_judgeOfOne_32, KX3_judgeOfOne_45, KX3_judgeOfOne_53, KX3_judgeOfOne_64, KX3_judgeOfOne_73, KX3_judgeOfOne_82, KX3_judgeOfOne_89, KX3_judgeOfOne_96, KX3_judgeOfOne_99, KX3_judgeOfOne_116, KX3_judgeOfOne_134, KX3_judgeOfOne_145, lkC, s1C, s2C, dlC, kyC, Nat.beq, Nat.ble, rcd, rno, rsw, Nat.reduceAdd, Nat.reduceBEq, Nat.reduceDiv, List.drop, List.take, List.reverse, List.reverseAux, Int.toNat, Option.toList, List.append, List.cons_append, List.nil_append, zg60, zg61, zg62, zg68, zg69, zg70, zg71, zg72, zg121]
          intro a163 e163 ob163
          obtain rfl : a = a163 := Option.some.inj (ha.symm.trans e163)
          have f164 : (fIC s161 a 70).toInt = ta.2.1 := (congrArg Int32.toInt (hX161.1 a 70 (Or.inr na)).1).trans wa.2.1
          intro a165 e165 ob165 fk165
          cases e165
          clear fk165 ob165
          generalize hs165 : pIC s161 p1 70 (fIC s161 a 70) = s165
          have hX165 : XuC [68, 70, 71] σ s165 p1 := XuC.pI (M := [68, 70, 71]) hX161 (by decide) hs165
          have hv165 : (fIC s161 a 70).toInt = ta.2.1 := by omega
          intro a166 e166 ob166
          cases e166
          have f167 : (fIC s165 p1 60).toInt = x.1.1 := (congrArg Int32.toInt (hX165.1 p1 60 (Or.inl (by decide))).1).trans hx.1.1
          have c168 : (Int32.ofInt 4).toInt = 4 := by decide
          refine ⟨fun h169 => ?_, fun h169 => ?_⟩
          · have g169 := (neI (x := (fIC s165 p1 60)) (y := (Int32.ofInt 4)) h169 : ¬ ((fIC s165 p1 60) : Int32).toInt = ((Int32.ofInt 4) : Int32).toInt)
            refine hB _ _ _ _ _ (fun m170 hm170 => ?_)
            dsimp only [ucgo, ucwp, ucsC, uqC, uoC, ctC, rfd, KX3_judgeOfOne, KX3_judgeOfOne_0, KX3_judgeOfOne_12, KX3_judgeOfOne_13, KX3_judgeOfOne_21, KX3_judgeOfOne_32, KX3_judgeOfOne_45, KX3_judgeOfOne_53, KX3_judgeOfOne_64, KX3_judgeOfOne_73, KX3_judgeOfOne_82, KX3_judgeOfOne_89, KX3_judgeOfOne_96, KX3_judgeOfOne_99, KX3_judgeOfOne_116, KX3_judgeOfOne_134, KX3_judgeOfOne_145, lkC, s1C, s2C, dlC, kyC, Nat.beq, Nat.ble, rcd, rno, rsw, Nat.reduceAdd, Nat.reduceBEq, Nat.reduceDiv, List.drop, List.take, List.reverse, List.reverseAux, Int.toNat, Option.toList, List.append, List.cons_append, List.nil_append, zg60, zg61, zg62, zg68, zg69, zg70, zg71, zg72, zg121]
            intro a171 e171 ob171
            cases e171
            have f172 : (fIC s165 p1 68).toInt = (fIC σ p1 69).toInt := congrArg Int32.toInt ((pI_o hs165 (by decide)).trans (pI_g hs161)) |>.trans hv161
            intro a173 e173 ob173
            obtain rfl : a = a173 := Option.some.inj (ha.symm.trans e173)
            have fl174 : (fLC s165 a 71) = fLC σ a 71 := (hX165.1 a 71 (Or.inr na)).2.1
            intro w175 τ175 o175 q175
            have hva175 : (fLC s165 a 71) = ta.2.2.1 := by first | exact wa.2.2 | exact fl174.trans wa.2.2
            obtain ⟨r175, rfl, hr175, rfl⟩ := q175 (N, E, A, B, V, z) ⟨_, _, rfl⟩
            try dsimp only [Option.toList, List.cons_append, List.nil_append, s1C, s2C, dlC, kyC, Nat.beq, lkC, rcd, rno, rsw]
            refine hB _ _ _ _ _ (fun m176 hm176 => ?_)
            dsimp only [ucgo, ucwp, ucsC, uqC, uoC, ctC, rfd, KX3_judgeOfOne, KX3_judgeOfOne_0, KX3_judgeOfOne_12, KX3_judgeOfOne_13, KX3_judgeOfOne_21, KX3_judgeOfOne_32, KX3_judgeOfOne_45, KX3_judgeOfOne_53, KX3_judgeOfOne_64, KX3_judgeOfOne_73, KX3_judgeOfOne_82, KX3_judgeOfOne_89, KX3_judgeOfOne_96, KX3_judgeOfOne_99, KX3_judgeOfOne_116, KX3_judgeOfOne_134, KX3_judgeOfOne_145, lkC, s1C, s2C, dlC, kyC, Nat.beq, Nat.ble, rcd, rno, rsw, Nat.reduceAdd, Nat.reduceBEq, Nat.reduceDiv, List.drop, List.take, List.reverse, List.reverseAux, Int.toNat, Option.toList, List.append, List.cons_append, List.nil_append, zg60, zg61, zg62, zg68, zg69, zg70, zg71, zg72, zg121]
            intro a177 e177 ob177 fk177
            cases e177
            clear fk177 ob177
            generalize hs177 : pLC s165 p1 71 r175 = s177
            have hX177 : XuC [68, 70, 71] σ s177 p1 := XuC.pL (M := [68, 70, 71]) hX165 (by decide) hs177
            try dsimp only [Qz_judgeOfOne]
            exact fun τ9 h9 => ⟨rfl, JqC.we h9 (Or.inr ⟨(x.2.1.2.2, ta.2.1, nrT x.2.1.2.2 ta.2.2.1, t.2.2.2), by unfold o1T; rw [if_neg (by omega), if_neg (by omega)]; unfold x5T; rw [if_pos (by have hg8 := hg9 (by omega); unfold nuT at *; omega)], XuC.er (M := [68, 70, 71]) hX177 (by decide) he, hX177, ⟨(congrArg Int32.toInt ((pL_oi hs177).trans ((pI_o hs165 (by decide)).trans (pI_g hs161)))).trans (by have hg8 := hg9 (by omega); omega), (congrArg Int32.toInt ((pL_oi hs177).trans (pI_g hs165))).trans (by omega), (pL_g hs177).trans (by rw [hr175, hva175]; exact congrArg (fun q => nrT q ta.2.2.1) (show (fIC s165 p1 68).toInt = x.2.1.2.2 by have hg8 := hg9 (by omega); omega))⟩, rfl⟩)⟩
          · have g169 := (eqI (x := (fIC s165 p1 60)) (y := (Int32.ofInt 4)) h169 : ((fIC s165 p1 60) : Int32).toInt = ((Int32.ofInt 4) : Int32).toInt)
            exfalso
            omega
      · have g95 := (eqI (x := r94) (y := 0) h95 : (r94 : Int32).toInt = (0 : Int32).toInt)
        have z0_ : (0 : Int32).toInt = 0 := rfl
        refine hB _ _ _ _ _ (fun m178 hm178 => ?_)
        dsimp only [ucgo, ucwp, ucsC, uqC, uoC, ctC, rfd, KX3_judgeOfOne, KX3_judgeOfOne_0, KX3_judgeOfOne_12, KX3_judgeOfOne_13, KX3_judgeOfOne_21, KX3_judgeOfOne_32, KX3_judgeOfOne_45, KX3_judgeOfOne_53, KX3_judgeOfOne_64, KX3_judgeOfOne_73, KX3_judgeOfOne_82, KX3_judgeOfOne_89, KX3_judgeOfOne_96, KX3_judgeOfOne_99, KX3_judgeOfOne_116, KX3_judgeOfOne_134, KX3_judgeOfOne_145, lkC, s1C, s2C, dlC, kyC, Nat.beq, Nat.ble, rcd, rno, rsw, Nat.reduceAdd, Nat.reduceBEq, Nat.reduceDiv, List.drop, List.take, List.reverse, List.reverseAux, Int.toNat, Option.toList, List.append, List.cons_append, List.nil_append, zg60, zg61, zg62, zg68, zg69, zg70, zg71, zg72, zg121]
        intro a179 e179 ob179
        cases e179
        have c180 : (Int32.ofInt 5).toInt = 5 := by decide
        intro a181 e181 ob181
        obtain rfl : a = a181 := Option.some.inj (ha.symm.trans e181)
        rw [hP.1]
        try dsimp only
        intro w183 τ183 o183 q183
        obtain ⟨rfl, hb183_⟩ := q183 (N, E, A, B, V, z) ⟨_, _, rfl, by omega⟩
        have hP183 : PjC E τ183 := hP.fr o183.2 rfl rfl
        try dsimp only [Option.toList, List.cons_append, List.nil_append, s1C, s2C, dlC, kyC, Nat.beq, lkC, rcd, rno, rsw]
        try dsimp only [Qz_judgeOfOne]
        exact fun τ9 h9 => ⟨rfl, JqC.we h9 (Or.inl ⟨by unfold o1T; rw [if_neg (by omega)]; by_cases h4 : x.1.1 = 4; (rw [if_pos h4]; unfold x4T; rw [if_neg (by unfold nuT at *; omega)]); (rw [if_neg h4]; have hg8 := hg9 (by omega); unfold x5T; rw [if_neg (by unfold nuT at *; omega)]), hb183_⟩)⟩
  · have g54 := (neI (x := r53) (y := 0) h54 : ¬ (r53 : Int32).toInt = (0 : Int32).toInt)
    have z0_ : (0 : Int32).toInt = 0 := rfl
    refine hB _ _ _ _ _ (fun m184 hm184 => ?_)
    dsimp only [ucgo, ucwp, ucsC, uqC, uoC, ctC, rfd, KX3_judgeOfOne, KX3_judgeOfOne_0, KX3_judgeOfOne_12, KX3_judgeOfOne_13, KX3_judgeOfOne_21, KX3_judgeOfOne_32, KX3_judgeOfOne_45, KX3_judgeOfOne_53, KX3_judgeOfOne_64, KX3_judgeOfOne_73, KX3_judgeOfOne_82, KX3_judgeOfOne_89, KX3_judgeOfOne_96, KX3_judgeOfOne_99, KX3_judgeOfOne_116, KX3_judgeOfOne_134, KX3_judgeOfOne_145, lkC, s1C, s2C, dlC, kyC, Nat.beq, Nat.ble, rcd, rno, rsw, Nat.reduceAdd, Nat.reduceBEq, Nat.reduceDiv, List.drop, List.take, List.reverse, List.reverseAux, Int.toNat, Option.toList, List.append, List.cons_append, List.nil_append, zg60, zg61, zg62, zg68, zg69, zg70, zg71, zg72, zg121]
    try dsimp only [Qz_judgeOfOne]
    exact absurd wa.1 (by intro q9; omega)
theorem wz_judgeOfOne : ∀ (L : Nat) (As : List AvC) (σ : CsC) (w : Option AvC) (τ : CsC), EvF L 56 As σ w τ → Uz_judgeOfOne As σ w τ := by
  intro L
  cases L with
  | zero => exact fun _ _ _ _ h => h.elim
  | succ L => exact fun As σ w τ h y hy => EvF.us (cs := [52, 228, 57, 58, 232, 118]) (pz_judgeOfOne y) rfl (List.forall_mem_cons.2 ⟨wz_isFaulty L, List.forall_mem_cons.2 ⟨wz_narrowed L, List.forall_mem_cons.2 ⟨wz_isTakenAlone L, List.forall_mem_cons.2 ⟨wz_promoted L, List.forall_mem_cons.2 ⟨wz_workedAlone L, List.forall_mem_cons.2 ⟨wz_tell L, fun _ h => absurd h List.not_mem_nil⟩⟩⟩⟩⟩⟩) h hy
abbrev Pz_judgeCount : ((Int → Int) × (Nat → Nat) × (Nat → Nat) × (Nat → Nat) × (Nat → Nat) × ZS × CxT × XrZ × TvT) → CpC := fun y As σ => match y with
  | (N, E, A, B, V, z, C, x, t) => ∃ (p1 : Nat), As = [.inr (.inr (some (E 3))), .inr (.inr (some p1))] ∧ (PjC E σ) ∧ (fIC σ (E 1) 217 = 0) ∧ (p1 < cnC σ) ∧ (XqC σ x p1) ∧ (TwC σ p1 t) ∧ (x.1.1 = 6) ∧ (VpC E V σ C)
abbrev Qz_judgeCount : ((Int → Int) × (Nat → Nat) × (Nat → Nat) × (Nat → Nat) × (Nat → Nat) × ZS × CxT × XrZ × TvT) → CqC := fun y As σ w τ => match y, As with
  | (N, E, A, B, V, z, C, x, t), [_, .inr (.inr (some p1))] => w = none ∧ JqC E [68, 70, 71] σ τ p1 (x6T C t x) (fun r => r.2.2.2 = t.2.2.2)
  | _, _ => True
abbrev Uz_judgeCount : CqC := fun As σ w τ => ∀ y, Pz_judgeCount y As σ → Qz_judgeCount y As σ w τ
set_option maxHeartbeats 4000000 in
theorem pz_judgeCount (y : (Int → Int) × (Nat → Nat) × (Nat → Nat) × (Nat → Nat) × (Nat → Nat) × ZS × CxT × XrZ × TvT) : PbC KX3_judgeCount [(51, TrP, EqC 51), (59, TrP, EqC 59), (223, TrP, EqC 223), (118, TrP, EqC 118)] [(51, Uz_variableOf), (59, Uz_mayChange), (223, Uz_isNumber), (118, Uz_tell)] (fun As σ => Pz_judgeCount y As σ ∧ cnC σ ≤ 1000000 ∧ ∃ w τ, uqC quL 60 As σ w τ) (Qz_judgeCount y) := by
  obtain ⟨N, E, A, B, V, z, C, x, t⟩ := y
  rintro As σ ⟨⟨p1, rfl, hP, he, hlt, hx, ht, hk, hV⟩, hcn, _, _, hQ⟩ K hB hW n_
  change K n_ 0 [(0, .inr (.inr (some (E 3)))), (1, .inr (.inr (some p1)))] [] σ
  refine hB _ _ _ _ _ (fun m51 hm51 => ?_)
  dsimp only [ucgo, ucwp, ucsC, uqC, uoC, ctC, rfd, KX3_judgeCount, KX3_judgeCount_0, KX3_judgeCount_17, KX3_judgeCount_18, KX3_judgeCount_28, KX3_judgeCount_43, KX3_judgeCount_47, KX3_judgeCount_55, lkC, s1C, s2C, dlC, kyC, Nat.beq, Nat.ble, rcd, rno, rsw, Nat.reduceAdd, Nat.reduceBEq, Nat.reduceDiv, List.drop, List.take, List.reverse, List.reverseAux, Int.toNat, Option.toList, List.append, List.cons_append, List.nil_append, zg62, zg121, zg331]
  intro w52 τ52 o52 q52
  obtain ⟨rfl, qq52⟩ := q52 (N, E, A, B, V, z, C, x.2.1.2.1) ⟨_, rfl, hV, hx.2.1 (by omega)⟩
  rcases qq52 with ⟨hk52, rfl⟩ | ⟨hk52, rfl⟩
  · obtain ⟨vo, hvo⟩ : ∃ o, V x.2.1.2.1.toNat = o := ⟨_, rfl⟩
    have hvv := hV.2.2 x.2.1.2.1.toNat (by omega)
    have hvl := (hV.2.1.2 x.2.1.2.1.toNat (by omega)).2
    rw [hvo] at hvv hvl
    rw [hvo]
    try dsimp only [Option.toList, List.cons_append, List.nil_append, s1C, s2C, dlC, kyC, Nat.beq, lkC, rcd, rno, rsw]
    intro w53 τ53 o53 q53
    obtain ⟨r53, rfl, qq53⟩ := q53 (N, E, A, B, V, z) ⟨_, _, rfl, hP, fun o9 q9 => by cases q9; exact hvl⟩
    rcases qq53 with ⟨hr53, ⟨o53_, qo53, qf53⟩, rfl⟩ | ⟨hr53, qf53, qb53⟩
    · cases qo53
      have hfin : (vtT C x.2.1.2.1).2 = 0 := hvv.2.symm.trans qf53
      try dsimp only [Option.toList, List.cons_append, List.nil_append, s1C, s2C, dlC, kyC, Nat.beq, lkC, rcd, rno, rsw]
      refine ⟨fun b54 h54 => ?_, fun h54 => ?_⟩
      · cases h54
        refine hB _ _ _ _ _ (fun m55 hm55 => ?_)
        dsimp only [ucgo, ucwp, ucsC, uqC, uoC, ctC, rfd, KX3_judgeCount, KX3_judgeCount_0, KX3_judgeCount_17, KX3_judgeCount_18, KX3_judgeCount_28, KX3_judgeCount_43, KX3_judgeCount_47, KX3_judgeCount_55, lkC, s1C, s2C, dlC, kyC, Nat.beq, Nat.ble, rcd, rno, rsw, Nat.reduceAdd, Nat.reduceBEq, Nat.reduceDiv, List.drop, List.take, List.reverse, List.reverseAux, Int.toNat, Option.toList, List.append, List.cons_append, List.nil_append, zg62, zg121, zg331]
        intro a56 e56 ob56
        cases e56
        have f57 : (fIC σ vo 331).toInt = (vtT C x.2.1.2.1).1 := hvv.1
        intro w58 τ58 o58 q58
        obtain ⟨r58, rfl, hr58, rfl⟩ := q58 (N, E, A, B, V, z) ⟨_, rfl⟩
        try dsimp only [Option.toList, List.cons_append, List.nil_append, s1C, s2C, dlC, kyC, Nat.beq, lkC, rcd, rno, rsw]
        refine ⟨fun h59 => ?_, fun h59 => ?_⟩
        · have g59 := (neI (x := r58) (y := 0) h59 : ¬ (r58 : Int32).toInt = (0 : Int32).toInt)
          have z0_ : (0 : Int32).toInt = 0 := rfl
          refine hB _ _ _ _ _ (fun m60 hm60 => ?_)
          dsimp only [ucgo, ucwp, ucsC, uqC, uoC, ctC, rfd, KX3_judgeCount, KX3_judgeCount_0, KX3_judgeCount_17, KX3_judgeCount_18, KX3_judgeCount_28, KX3_judgeCount_43, KX3_judgeCount_47, KX3_judgeCount_55, lkC, s1C, s2C, dlC, kyC, Nat.beq, Nat.ble, rcd, rno, rsw, Nat.reduceAdd, Nat.reduceBEq, Nat.reduceDiv, List.drop, List.take, List.reverse, List.reverseAux, Int.toNat, Option.toList, List.append, List.cons_append, List.nil_append, zg62, zg121, zg331]
          refine ⟨fun h61 => ?_, fun h61 => ?_⟩
          · have g61 := (eqI (x := r53) (y := 0) h61 : (r53 : Int32).toInt = (0 : Int32).toInt)
            have z0_ : (0 : Int32).toInt = 0 := rfl
            exfalso
            omega
          · have g61 := (neI (x := r53) (y := 0) h61 : ¬ (r53 : Int32).toInt = (0 : Int32).toInt)
            have z0_ : (0 : Int32).toInt = 0 := rfl
            refine hB _ _ _ _ _ (fun m62 hm62 => ?_)
            dsimp only [ucgo, ucwp, ucsC, uqC, uoC, ctC, rfd, KX3_judgeCount, KX3_judgeCount_0, KX3_judgeCount_17, KX3_judgeCount_18, KX3_judgeCount_28, KX3_judgeCount_43, KX3_judgeCount_47, KX3_judgeCount_55, lkC, s1C, s2C, dlC, kyC, Nat.beq, Nat.ble, rcd, rno, rsw, Nat.reduceAdd, Nat.reduceBEq, Nat.reduceDiv, List.drop, List.take, List.reverse, List.reverseAux, Int.toNat, Option.toList, List.append, List.cons_append, List.nil_append, zg62, zg121, zg331]
            intro a63 e63 ob63
            cases e63
            have f64 : (fIC σ vo 331).toInt = (vtT C x.2.1.2.1).1 := hvv.1
            intro a65 e65 ob65 fk65
            cases e65
            clear fk65 ob65
            generalize hs65 : pIC σ p1 68 (fIC σ vo 331) = s65
            have hX65 : XuC [68, 70, 71] σ s65 p1 := XuC.pI (M := [68, 70, 71]) (XuC.rf) (by decide) hs65
            have hv65 : (fIC σ vo 331).toInt = (vtT C x.2.1.2.1).1 := by omega
            refine hB _ _ _ _ _ (fun m66 hm66 => ?_)
            dsimp only [ucgo, ucwp, ucsC, uqC, uoC, ctC, rfd, KX3_judgeCount, KX3_judgeCount_0, KX3_judgeCount_17, KX3_judgeCount_18, KX3_judgeCount_28, KX3_judgeCount_43, KX3_judgeCount_47, KX3_judgeCount_55, lkC, s1C, s2C, dlC, kyC, Nat.beq, Nat.ble, rcd, rno, rsw, Nat.reduceAdd, Nat.reduceBEq, Nat.reduceDiv, List.drop, List.take, List.reverse, List.reverseAux, Int.toNat, Option.toList, List.append, List.cons_append, List.nil_append, zg62, zg121, zg331]
            try dsimp only [Qz_judgeCount]
            exact fun τ9 h9 => ⟨rfl, JqC.we h9 (Or.inr ⟨((vtT C x.2.1.2.1).1, t.2), by unfold x6T; rw [if_pos ⟨⟨hk52, hfin⟩, by unfold nuT at *; omega⟩], XuC.er (M := [68, 70, 71]) hX65 (by decide) he, hX65, ⟨(congrArg Int32.toInt (pI_g hs65)).trans (by omega), (congrArg Int32.toInt ((pI_o hs65 (show (70 : Nat) ≠ 68 by decide)).trans rfl)).trans ht.2.1, ((pI_ol hs65).trans rfl).trans ht.2.2⟩, rfl⟩)⟩
        · have g59 := (eqI (x := r58) (y := 0) h59 : (r58 : Int32).toInt = (0 : Int32).toInt)
          have z0_ : (0 : Int32).toInt = 0 := rfl
          refine hB _ _ _ _ _ (fun m67 hm67 => ?_)
          dsimp only [ucgo, ucwp, ucsC, uqC, uoC, ctC, rfd, KX3_judgeCount, KX3_judgeCount_0, KX3_judgeCount_17, KX3_judgeCount_18, KX3_judgeCount_28, KX3_judgeCount_43, KX3_judgeCount_47, KX3_judgeCount_55, lkC, s1C, s2C, dlC, kyC, Nat.beq, Nat.ble, rcd, rno, rsw, Nat.reduceAdd, Nat.reduceBEq, Nat.reduceDiv, List.drop, List.take, List.reverse, List.reverseAux, Int.toNat, Option.toList, List.append, List.cons_append, List.nil_append, zg62, zg121, zg331]
          intro a68 e68 ob68
          cases e68
          have c69 : (Int32.ofInt 5).toInt = 5 := by decide
          intro a70 e70 ob70
          cases e70
          have f71 : (fIC σ p1 62).toInt = x.1.2.2.1 := hx.1.2.2
          rw [hP.1]
          try dsimp only
          intro w72 τ72 o72 q72
          obtain ⟨rfl, hb72_⟩ := q72 (N, E, A, B, V, z) ⟨_, _, rfl, by omega⟩
          have hP72 : PjC E τ72 := hP.fr o72.2 rfl rfl
          try dsimp only [Option.toList, List.cons_append, List.nil_append, s1C, s2C, dlC, kyC, Nat.beq, lkC, rcd, rno, rsw]
          refine hB _ _ _ _ _ (fun m73 hm73 => ?_)
          dsimp only [ucgo, ucwp, ucsC, uqC, uoC, ctC, rfd, KX3_judgeCount, KX3_judgeCount_0, KX3_judgeCount_17, KX3_judgeCount_18, KX3_judgeCount_28, KX3_judgeCount_43, KX3_judgeCount_47, KX3_judgeCount_55, lkC, s1C, s2C, dlC, kyC, Nat.beq, Nat.ble, rcd, rno, rsw, Nat.reduceAdd, Nat.reduceBEq, Nat.reduceDiv, List.drop, List.take, List.reverse, List.reverseAux, Int.toNat, Option.toList, List.append, List.cons_append, List.nil_append, zg62, zg121, zg331]
          try dsimp only [Qz_judgeCount]
          exact fun τ9 h9 => ⟨rfl, JqC.we h9 (Or.inl ⟨by unfold x6T; rw [if_neg (by first | (intro q9; exact hkn q9.1.1) | (intro q9; exact hfin q9.1.2) | (unfold nuT at *; omega))], hb72_⟩)⟩
      · cases h54
    · have hfin : ¬ (vtT C x.2.1.2.1).2 = 0 := fun q9 => qf53 _ rfl (hvv.2.trans q9)
      have hP53 : PjC E τ53 := hP.fr o53.2 rfl rfl
      try dsimp only [Option.toList, List.cons_append, List.nil_append, s1C, s2C, dlC, kyC, Nat.beq, lkC, rcd, rno, rsw]
      refine ⟨fun b74 h74 => ?_, fun h74 => ?_⟩
      · cases h74
        refine hB _ _ _ _ _ (fun m75 hm75 => ?_)
        dsimp only [ucgo, ucwp, ucsC, uqC, uoC, ctC, rfd, KX3_judgeCount, KX3_judgeCount_0, KX3_judgeCount_17, KX3_judgeCount_18, KX3_judgeCount_28, KX3_judgeCount_43, KX3_judgeCount_47, KX3_judgeCount_55, lkC, s1C, s2C, dlC, kyC, Nat.beq, Nat.ble, rcd, rno, rsw, Nat.reduceAdd, Nat.reduceBEq, Nat.reduceDiv, List.drop, List.take, List.reverse, List.reverseAux, Int.toNat, Option.toList, List.append, List.cons_append, List.nil_append, zg62, zg121, zg331]
        intro a76 e76 ob76
        cases e76
        intro w77 τ77 o77 q77
        obtain ⟨r77, rfl, hr77, rfl⟩ := q77 (N, E, A, B, V, z) ⟨_, rfl⟩
        try dsimp only [Option.toList, List.cons_append, List.nil_append, s1C, s2C, dlC, kyC, Nat.beq, lkC, rcd, rno, rsw]
        refine ⟨fun h78 => ?_, fun h78 => ?_⟩
        · have g78 := (neI (x := r77) (y := 0) h78 : ¬ (r77 : Int32).toInt = (0 : Int32).toInt)
          have z0_ : (0 : Int32).toInt = 0 := rfl
          refine hB _ _ _ _ _ (fun m79 hm79 => ?_)
          dsimp only [ucgo, ucwp, ucsC, uqC, uoC, ctC, rfd, KX3_judgeCount, KX3_judgeCount_0, KX3_judgeCount_17, KX3_judgeCount_18, KX3_judgeCount_28, KX3_judgeCount_43, KX3_judgeCount_47, KX3_judgeCount_55, lkC, s1C, s2C, dlC, kyC, Nat.beq, Nat.ble, rcd, rno, rsw, Nat.reduceAdd, Nat.reduceBEq, Nat.reduceDiv, List.drop, List.take, List.reverse, List.reverseAux, Int.toNat, Option.toList, List.append, List.cons_append, List.nil_append, zg62, zg121, zg331]
          refine ⟨fun h80 => ?_, fun h80 => ?_⟩
          · have g80 := (eqI (x := r53) (y := 0) h80 : (r53 : Int32).toInt = (0 : Int32).toInt)
            have z0_ : (0 : Int32).toInt = 0 := rfl
            refine hB _ _ _ _ _ (fun m81 hm81 => ?_)
            dsimp only [ucgo, ucwp, ucsC, uqC, uoC, ctC, rfd, KX3_judgeCount, KX3_judgeCount_0, KX3_judgeCount_17, KX3_judgeCount_18, KX3_judgeCount_28, KX3_judgeCount_43, KX3_judgeCount_47, KX3_judgeCount_55, lkC, s1C, s2C, dlC, kyC, Nat.beq, Nat.ble, rcd, rno, rsw, Nat.reduceAdd, Nat.reduceBEq, Nat.reduceDiv, List.drop, List.take, List.reverse, List.reverseAux, Int.toNat, Option.toList, List.append, List.cons_append, List.nil_append, zg62, zg121, zg331]
            try dsimp only [Qz_judgeCount]
            exact fun τ9 h9 => ⟨rfl, JqC.we h9 (Or.inl ⟨by unfold x6T; rw [if_neg (by first | (intro q9; exact hkn q9.1.1) | (intro q9; exact hfin q9.1.2) | (unfold nuT at *; omega))], qb53⟩)⟩
          · have g80 := (neI (x := r53) (y := 0) h80 : ¬ (r53 : Int32).toInt = (0 : Int32).toInt)
            have z0_ : (0 : Int32).toInt = 0 := rfl
            exfalso
            omega
        · have g78 := (eqI (x := r77) (y := 0) h78 : (r77 : Int32).toInt = (0 : Int32).toInt)
          have z0_ : (0 : Int32).toInt = 0 := rfl
          refine hB _ _ _ _ _ (fun m82 hm82 => ?_)
          dsimp only [ucgo, ucwp, ucsC, uqC, uoC, ctC, rfd, KX3_judgeCount, KX3_judgeCount_0, KX3_judgeCount_17, KX3_judgeCount_18, KX3_judgeCount_28, KX3_judgeCount_43, KX3_judgeCount_47, KX3_judgeCount_55, lkC, s1C, s2C, dlC, kyC, Nat.beq, Nat.ble, rcd, rno, rsw, Nat.reduceAdd, Nat.reduceBEq, Nat.reduceDiv, List.drop, List.take, List.reverse, List.reverseAux, Int.toNat, Option.toList, List.append, List.cons_append, List.nil_append, zg62, zg121, zg331]
          intro a83 e83 ob83
          cases e83
          have c84 : (Int32.ofInt 5).toInt = 5 := by decide
          intro a85 e85 ob85
          cases e85
          rw [hP53.1]
          try dsimp only
          intro w86 τ86 o86 q86
          have hb86 : erC E τ86 := o86.1.2.2.2 rfl (E 1) hP53.2.1 qb53
          have hP86 : PjC E τ86 := hP53.fr o86.2 rfl rfl
          obtain ⟨rfl, hb86_⟩ := q86 (N, E, A, B, V, z) ⟨_, _, rfl, by omega⟩
          try dsimp only [Option.toList, List.cons_append, List.nil_append, s1C, s2C, dlC, kyC, Nat.beq, lkC, rcd, rno, rsw]
          refine hB _ _ _ _ _ (fun m87 hm87 => ?_)
          dsimp only [ucgo, ucwp, ucsC, uqC, uoC, ctC, rfd, KX3_judgeCount, KX3_judgeCount_0, KX3_judgeCount_17, KX3_judgeCount_18, KX3_judgeCount_28, KX3_judgeCount_43, KX3_judgeCount_47, KX3_judgeCount_55, lkC, s1C, s2C, dlC, kyC, Nat.beq, Nat.ble, rcd, rno, rsw, Nat.reduceAdd, Nat.reduceBEq, Nat.reduceDiv, List.drop, List.take, List.reverse, List.reverseAux, Int.toNat, Option.toList, List.append, List.cons_append, List.nil_append, zg62, zg121, zg331]
          try dsimp only [Qz_judgeCount]
          exact fun τ9 h9 => ⟨rfl, JqC.we h9 (Or.inl ⟨by unfold x6T; rw [if_neg (by first | (intro q9; exact hkn q9.1.1) | (intro q9; exact hfin q9.1.2) | (unfold nuT at *; omega))], hb86⟩)⟩
      · cases h74
  · have hkn := hk52
    try dsimp only [Option.toList, List.cons_append, List.nil_append, s1C, s2C, dlC, kyC, Nat.beq, lkC, rcd, rno, rsw]
    intro w88 τ88 o88 q88
    obtain ⟨r88, rfl, qq88⟩ := q88 (N, E, A, B, V, z) ⟨_, _, rfl, hP, fun o9 q9 => by cases q9⟩
    rcases qq88 with ⟨hr88, ⟨o88_, qo88, qf88⟩, rfl⟩ | ⟨hr88, qf88, qb88⟩
    · cases qo88
    · have hfin := hkn
      have hP88 : PjC E τ88 := hP.fr o88.2 rfl rfl
      try dsimp only [Option.toList, List.cons_append, List.nil_append, s1C, s2C, dlC, kyC, Nat.beq, lkC, rcd, rno, rsw]
      refine ⟨fun b89 h89 => ?_, fun h89 => ?_⟩
      · cases h89
      · skip
        refine hB _ _ _ _ _ (fun m90 hm90 => ?_)
        dsimp only [ucgo, ucwp, ucsC, uqC, uoC, ctC, rfd, KX3_judgeCount, KX3_judgeCount_0, KX3_judgeCount_17, KX3_judgeCount_18, KX3_judgeCount_28, KX3_judgeCount_43, KX3_judgeCount_47, KX3_judgeCount_55, lkC, s1C, s2C, dlC, kyC, Nat.beq, Nat.ble, rcd, rno, rsw, Nat.reduceAdd, Nat.reduceBEq, Nat.reduceDiv, List.drop, List.take, List.reverse, List.reverseAux, Int.toNat, Option.toList, List.append, List.cons_append, List.nil_append, zg62, zg121, zg331]
        try dsimp only [Qz_judgeCount]
        exact fun τ9 h9 => ⟨rfl, JqC.we h9 (Or.inl ⟨by unfold x6T; rw [if_neg (by first | (intro q9; exact hkn q9.1.1) | (intro q9; exact hfin q9.1.2) | (unfold nuT at *; omega))], qb88⟩)⟩
theorem wz_judgeCount : ∀ (L : Nat) (As : List AvC) (σ : CsC) (w : Option AvC) (τ : CsC), EvF L 60 As σ w τ → Uz_judgeCount As σ w τ := by
  intro L
  cases L with
  | zero => exact fun _ _ _ _ h => h.elim
  | succ L => exact fun As σ w τ h y hy => EvF.us (cs := [51, 59, 223, 118]) (pz_judgeCount y) rfl (List.forall_mem_cons.2 ⟨wz_variableOf L, List.forall_mem_cons.2 ⟨wz_mayChange L, List.forall_mem_cons.2 ⟨wz_isNumber L, List.forall_mem_cons.2 ⟨wz_tell L, fun _ h => absurd h List.not_mem_nil⟩⟩⟩⟩) h hy
abbrev Pz_judgeAssignment : ((Int → Int) × (Nat → Nat) × (Nat → Nat) × (Nat → Nat) × (Nat → Nat) × ZS × CxT × XrZ × TvT × Nat × TvT) → CpC := fun y As σ => match y with
  | (N, E, A, B, V, z, C, x, t, b, tb) => ∃ (p1 : Nat), As = [.inr (.inr (some (E 3))), .inr (.inr (some p1))] ∧ (PjC E σ) ∧ (fIC σ (E 1) 217 = 0) ∧ (p1 < cnC σ) ∧ (XqC σ x p1) ∧ (TwC σ p1 t) ∧ (x.1.1 = 9) ∧ (VpC E V σ C) ∧ (fRC σ p1 73 = some b) ∧ (b ≠ p1) ∧ (TwC σ b tb) ∧ (¬ tb.1 = -1)
abbrev Qz_judgeAssignment : ((Int → Int) × (Nat → Nat) × (Nat → Nat) × (Nat → Nat) × (Nat → Nat) × ZS × CxT × XrZ × TvT × Nat × TvT) → CqC := fun y As σ w τ => match y, As with
  | (N, E, A, B, V, z, C, x, t, b, tb), [_, .inr (.inr (some p1))] => w = none ∧ JqC E [68, 69, 70, 71] σ τ p1 (x9T C tb t x) (fun r => (fIC τ p1 69).toInt = r.2.2.2)
  | _, _ => True
abbrev Uz_judgeAssignment : CqC := fun As σ w τ => ∀ y, Pz_judgeAssignment y As σ → Qz_judgeAssignment y As σ w τ
set_option maxHeartbeats 4000000 in
theorem pz_judgeAssignment (y : (Int → Int) × (Nat → Nat) × (Nat → Nat) × (Nat → Nat) × (Nat → Nat) × ZS × CxT × XrZ × TvT × Nat × TvT) : PbC KX3_judgeAssignment [(51, TrP, EqC 51), (59, TrP, EqC 59), (63, TrP, EqC 63), (52, TrP, EqC 52), (75, TrP, EqC 75), (62, TrP, EqC 62), (68, TrP, EqC 68)] [(51, Uz_variableOf), (59, Uz_mayChange), (63, Uz_areTaken), (52, Uz_isFaulty), (75, Uz_fits), (62, Uz_isWanted), (68, Uz_workType)] (fun As σ => Pz_judgeAssignment y As σ ∧ cnC σ ≤ 1000000 ∧ ∃ w τ, uqC quL 61 As σ w τ) (Qz_judgeAssignment y) := by
  obtain ⟨N, E, A, B, V, z, C, x, t, b, tb⟩ := y
  rintro As σ ⟨⟨p1, rfl, hP, he, hlt, hx, ht, hk, hV, hb, nb, wb, fb⟩, hcn, _, _, hQ⟩ K hB hW n_
  have h9b : (fIC σ b 68).toInt = tb.1 := wb.1
  change K n_ 0 [(0, .inr (.inr (some (E 3)))), (1, .inr (.inr (some p1)))] [] σ
  refine hB _ _ _ _ _ (fun m51 hm51 => ?_)
  dsimp only [ucgo, ucwp, ucsC, uqC, uoC, ctC, rfd, KX3_judgeAssignment, KX3_judgeAssignment_0, KX3_judgeAssignment_17, KX3_judgeAssignment_18, KX3_judgeAssignment_27, KX3_judgeAssignment_38, KX3_judgeAssignment_63, KX3_judgeAssignment_67, KX3_judgeAssignment_68, KX3_judgeAssignment_73, KX3_judgeAssignment_89, KX3_judgeAssignment_93, KX3_judgeAssignment_123, lkC, s1C, s2C, dlC, kyC, Nat.beq, Nat.ble, rcd, rno, rsw, Nat.reduceAdd, Nat.reduceBEq, Nat.reduceDiv, List.drop, List.take, List.reverse, List.reverseAux, Int.toNat, Option.toList, List.append, List.cons_append, List.nil_append, zg61, zg62, zg68, zg73, zg331]
  intro w52 τ52 o52 q52
  obtain ⟨rfl, qq52⟩ := q52 (N, E, A, B, V, z, C, x.2.1.2.1) ⟨_, rfl, hV, hx.2.1 (by omega)⟩
  rcases qq52 with ⟨hk52, rfl⟩ | ⟨hk52, rfl⟩
  · obtain ⟨vo, hvo⟩ : ∃ o, V x.2.1.2.1.toNat = o := ⟨_, rfl⟩
    have hvv := hV.2.2 x.2.1.2.1.toNat (by omega)
    have hvl := (hV.2.1.2 x.2.1.2.1.toNat (by omega)).2
    rw [hvo] at hvv hvl
    rw [hvo]
    try dsimp only [Option.toList, List.cons_append, List.nil_append, s1C, s2C, dlC, kyC, Nat.beq, lkC, rcd, rno, rsw]
    intro w53 τ53 o53 q53
    obtain ⟨r53, rfl, qq53⟩ := q53 (N, E, A, B, V, z) ⟨_, _, rfl, hP, fun o9 q9 => by cases q9; exact hvl⟩
    rcases qq53 with ⟨hr53, ⟨o53_, qo53, qf53⟩, rfl⟩ | ⟨hr53, qf53, qb53⟩
    · cases qo53
      have hfin : (vtT C x.2.1.2.1).2 = 0 := hvv.2.symm.trans qf53
      try dsimp only [Option.toList, List.cons_append, List.nil_append, s1C, s2C, dlC, kyC, Nat.beq, lkC, rcd, rno, rsw]
      refine ⟨fun b54 h54 => ?_, fun h54 => ?_⟩
      · cases h54
        refine hB _ _ _ _ _ (fun m55 hm55 => ?_)
        dsimp only [ucgo, ucwp, ucsC, uqC, uoC, ctC, rfd, KX3_judgeAssignment, KX3_judgeAssignment_0, KX3_judgeAssignment_17, KX3_judgeAssignment_18, KX3_judgeAssignment_27, KX3_judgeAssignment_38, KX3_judgeAssignment_63, KX3_judgeAssignment_67, KX3_judgeAssignment_68, KX3_judgeAssignment_73, KX3_judgeAssignment_89, KX3_judgeAssignment_93, KX3_judgeAssignment_123, lkC, s1C, s2C, dlC, kyC, Nat.beq, Nat.ble, rcd, rno, rsw, Nat.reduceAdd, Nat.reduceBEq, Nat.reduceDiv, List.drop, List.take, List.reverse, List.reverseAux, Int.toNat, Option.toList, List.append, List.cons_append, List.nil_append, zg61, zg62, zg68, zg73, zg331]
        intro a56 e56 ob56
        cases e56
        have f57 : (fIC σ p1 61).toInt = x.1.2.1 := hx.1.2.1
        have c58 : (Int32.ofInt 8).toInt = 8 := by decide
        refine ⟨fun h59 => ?_, fun h59 => ?_⟩
        · have g59 := (neI (x := (fIC σ p1 61)) (y := (Int32.ofInt 8)) h59 : ¬ ((fIC σ p1 61) : Int32).toInt = ((Int32.ofInt 8) : Int32).toInt)
          refine hB _ _ _ _ _ (fun m60 hm60 => ?_)
          dsimp only [ucgo, ucwp, ucsC, uqC, uoC, ctC, rfd, KX3_judgeAssignment, KX3_judgeAssignment_0, KX3_judgeAssignment_17, KX3_judgeAssignment_18, KX3_judgeAssignment_27, KX3_judgeAssignment_38, KX3_judgeAssignment_63, KX3_judgeAssignment_67, KX3_judgeAssignment_68, KX3_judgeAssignment_73, KX3_judgeAssignment_89, KX3_judgeAssignment_93, KX3_judgeAssignment_123, lkC, s1C, s2C, dlC, kyC, Nat.beq, Nat.ble, rcd, rno, rsw, Nat.reduceAdd, Nat.reduceBEq, Nat.reduceDiv, List.drop, List.take, List.reverse, List.reverseAux, Int.toNat, Option.toList, List.append, List.cons_append, List.nil_append, zg61, zg62, zg68, zg73, zg331]
          intro a61 e61 ob61
          cases e61
          have f62 : (fIC σ vo 331).toInt = (vtT C x.2.1.2.1).1 := hvv.1
          intro a63 e63 ob63
          cases e63
          intro w64 τ64 o64 q64
          rw [hb] at q64 o64
          obtain ⟨r64, rfl, qq64⟩ := q64 (N, E, A, B, V, z) ⟨_, _, _, rfl, hP⟩
          have hnf64 : ¬ (fIC σ b 68).toInt = -1 := by rw [wb.1]; exact fb
          rcases qq64 hnf64 with ⟨hr64, hc64, rfl⟩ | ⟨hr64, hc64, qb64⟩
          · rw [hx.1.2.1, wb.1, show ((fIC σ vo 331) : Int32).toInt = (vtT C x.2.1.2.1).1 by omega] at hc64
            have hct := hc64
            try dsimp only [Option.toList, List.cons_append, List.nil_append, s1C, s2C, dlC, kyC, Nat.beq, lkC, rcd, rno, rsw]
            have ia65 : (r53 &&& r64).toInt = if 1 = 1 ∧ 1 = 1 then 1 else 0 := and01 (x := r53) (y := r64) (a := 1) (b := 1) (by omega) (by omega) (by omega) (by omega)
            have ib65 : (r53 &&& r64).toInt = 1 := ia65.trans (by decide)
            refine hB _ _ _ _ _ (fun m66 hm66 => ?_)
            dsimp only [ucgo, ucwp, ucsC, uqC, uoC, ctC, rfd, KX3_judgeAssignment, KX3_judgeAssignment_0, KX3_judgeAssignment_17, KX3_judgeAssignment_18, KX3_judgeAssignment_27, KX3_judgeAssignment_38, KX3_judgeAssignment_63, KX3_judgeAssignment_67, KX3_judgeAssignment_68, KX3_judgeAssignment_73, KX3_judgeAssignment_89, KX3_judgeAssignment_93, KX3_judgeAssignment_123, lkC, s1C, s2C, dlC, kyC, Nat.beq, Nat.ble, rcd, rno, rsw, Nat.reduceAdd, Nat.reduceBEq, Nat.reduceDiv, List.drop, List.take, List.reverse, List.reverseAux, Int.toNat, Option.toList, List.append, List.cons_append, List.nil_append, zg61, zg62, zg68, zg73, zg331]
            refine ⟨fun h67 => ?_, fun h67 => ?_⟩
            · have g67 := (eqI (x := (r53 &&& r64)) (y := 0) h67 : ((r53 &&& r64) : Int32).toInt = (0 : Int32).toInt)
              have z0_ : (0 : Int32).toInt = 0 := rfl
              exfalso
              omega
            · have g67 := (neI (x := (r53 &&& r64)) (y := 0) h67 : ¬ ((r53 &&& r64) : Int32).toInt = (0 : Int32).toInt)
              have z0_ : (0 : Int32).toInt = 0 := rfl
              refine hB _ _ _ _ _ (fun m68 hm68 => ?_)
              dsimp only [ucgo, ucwp, ucsC, uqC, uoC, ctC, rfd, KX3_judgeAssignment, KX3_judgeAssignment_0, KX3_judgeAssignment_17, KX3_judgeAssignment_18, KX3_judgeAssignment_27, KX3_judgeAssignment_38, KX3_judgeAssignment_63, KX3_judgeAssignment_67, KX3_judgeAssignment_68, KX3_judgeAssignment_73, KX3_judgeAssignment_89, KX3_judgeAssignment_93, KX3_judgeAssignment_123, lkC, s1C, s2C, dlC, kyC, Nat.beq, Nat.ble, rcd, rno, rsw, Nat.reduceAdd, Nat.reduceBEq, Nat.reduceDiv, List.drop, List.take, List.reverse, List.reverseAux, Int.toNat, Option.toList, List.append, List.cons_append, List.nil_append, zg61, zg62, zg68, zg73, zg331]
              intro a69 e69 ob69
              cases e69
              have f70 : (fIC σ vo 331).toInt = (vtT C x.2.1.2.1).1 := hvv.1
              intro a71 e71 ob71 fk71
              cases e71
              clear fk71 ob71
              generalize hs71 : pIC σ p1 68 (fIC σ vo 331) = s71
              have hX71 : XuC [68, 69, 70, 71] σ s71 p1 := XuC.pI (M := [68, 69, 70, 71]) (XuC.rf) (by decide) hs71
              have hv71 : (fIC σ vo 331).toInt = (vtT C x.2.1.2.1).1 := by omega
              intro a72 e72 ob72
              cases e72
              have f73 : (fIC s71 p1 61).toInt = x.1.2.1 := (congrArg Int32.toInt (hX71.1 p1 61 (Or.inl (by decide))).1).trans hx.1.2.1
              intro a74 e74 ob74
              cases e74
              have f75 : (fIC s71 vo 331).toInt = (vtT C x.2.1.2.1).1 := (congrArg Int32.toInt (hX71.1 vo 331 (Or.inl (by decide))).1).trans hvv.1
              intro a76 e76 ob76
              cases e76
              intro a77 e77 ob77
              obtain rfl : b = a77 := Option.some.inj (((hX71.1 p1 73 (Or.inl (by decide))).2.2.trans hb).symm.trans e77)
              have f78 : (fIC s71 b 68).toInt = tb.1 := (congrArg Int32.toInt (hX71.1 b 68 (Or.inr nb)).1).trans wb.1
              intro w79 τ79 o79 q79
              obtain ⟨r79, rfl, hr79, rfl⟩ := q79 (N, E, A, B, V, z) ⟨_, _, _, rfl⟩
              have hwt : r79.toInt = wrT x.1.2.1 (vtT C x.2.1.2.1).1 tb.1 := by rw [hr79, show ((fIC s71 p1 61) : Int32).toInt = x.1.2.1 by omega, show ((fIC s71 vo 331) : Int32).toInt = (vtT C x.2.1.2.1).1 by omega, show ((fIC s71 b 68) : Int32).toInt = tb.1 by omega]
              try dsimp only [Option.toList, List.cons_append, List.nil_append, s1C, s2C, dlC, kyC, Nat.beq, lkC, rcd, rno, rsw]
              intro a80 e80 ob80 fk80
              cases e80
              clear fk80 ob80
              generalize hs80 : pIC s71 p1 69 r79 = s80
              have hX80 : XuC [68, 69, 70, 71] σ s80 p1 := XuC.pI (M := [68, 69, 70, 71]) hX71 (by decide) hs80
              have hv80 : r79.toInt = r79.toInt := by omega
              refine hB _ _ _ _ _ (fun m81 hm81 => ?_)
              dsimp only [ucgo, ucwp, ucsC, uqC, uoC, ctC, rfd, KX3_judgeAssignment, KX3_judgeAssignment_0, KX3_judgeAssignment_17, KX3_judgeAssignment_18, KX3_judgeAssignment_27, KX3_judgeAssignment_38, KX3_judgeAssignment_63, KX3_judgeAssignment_67, KX3_judgeAssignment_68, KX3_judgeAssignment_73, KX3_judgeAssignment_89, KX3_judgeAssignment_93, KX3_judgeAssignment_123, lkC, s1C, s2C, dlC, kyC, Nat.beq, Nat.ble, rcd, rno, rsw, Nat.reduceAdd, Nat.reduceBEq, Nat.reduceDiv, List.drop, List.take, List.reverse, List.reverseAux, Int.toNat, Option.toList, List.append, List.cons_append, List.nil_append, zg61, zg62, zg68, zg73, zg331]
              try dsimp only [Qz_judgeAssignment]
              exact fun τ9 h9 => ⟨rfl, JqC.we h9 (Or.inr ⟨((vtT C x.2.1.2.1).1, t.2.1, t.2.2.1, wrT x.1.2.1 (vtT C x.2.1.2.1).1 tb.1), by unfold x9T; rw [if_pos ⟨⟨hk52, hfin⟩, by first | exact Or.inr ⟨by omega, hct⟩ | exact Or.inl ⟨by omega, by rcases hftn with q8 | q8; exact q8.2; exact absurd q8.1 (by omega)⟩⟩], XuC.er (M := [68, 69, 70, 71]) hX80 (by decide) he, hX80, ⟨(congrArg Int32.toInt ((pI_o hs80 (by decide)).trans (pI_g hs71))).trans (by omega), (congrArg Int32.toInt ((pI_o hs80 (show (70 : Nat) ≠ 69 by decide)).trans ((pI_o hs71 (show (70 : Nat) ≠ 68 by decide)).trans rfl))).trans ht.2.1, ((pI_ol hs80).trans ((pI_ol hs71).trans rfl)).trans ht.2.2⟩, (by rw [we_i h9]; exact (congrArg Int32.toInt (pI_g hs80)).trans hwt)⟩)⟩
          · rw [hx.1.2.1, wb.1, show ((fIC σ vo 331) : Int32).toInt = (vtT C x.2.1.2.1).1 by omega] at hc64
            have hcf := hc64
            have hP64 : PjC E τ64 := hP.fr o64.2 rfl rfl
            try dsimp only [Option.toList, List.cons_append, List.nil_append, s1C, s2C, dlC, kyC, Nat.beq, lkC, rcd, rno, rsw]
            have ia82 : (r53 &&& r64).toInt = if 1 = 1 ∧ 0 = 1 then 1 else 0 := and01 (x := r53) (y := r64) (a := 1) (b := 0) (by omega) (by omega) (by omega) (by omega)
            have ib82 : (r53 &&& r64).toInt = 0 := ia82.trans (by decide)
            refine hB _ _ _ _ _ (fun m83 hm83 => ?_)
            dsimp only [ucgo, ucwp, ucsC, uqC, uoC, ctC, rfd, KX3_judgeAssignment, KX3_judgeAssignment_0, KX3_judgeAssignment_17, KX3_judgeAssignment_18, KX3_judgeAssignment_27, KX3_judgeAssignment_38, KX3_judgeAssignment_63, KX3_judgeAssignment_67, KX3_judgeAssignment_68, KX3_judgeAssignment_73, KX3_judgeAssignment_89, KX3_judgeAssignment_93, KX3_judgeAssignment_123, lkC, s1C, s2C, dlC, kyC, Nat.beq, Nat.ble, rcd, rno, rsw, Nat.reduceAdd, Nat.reduceBEq, Nat.reduceDiv, List.drop, List.take, List.reverse, List.reverseAux, Int.toNat, Option.toList, List.append, List.cons_append, List.nil_append, zg61, zg62, zg68, zg73, zg331]
            refine ⟨fun h84 => ?_, fun h84 => ?_⟩
            · have g84 := (eqI (x := (r53 &&& r64)) (y := 0) h84 : ((r53 &&& r64) : Int32).toInt = (0 : Int32).toInt)
              have z0_ : (0 : Int32).toInt = 0 := rfl
              refine hB _ _ _ _ _ (fun m85 hm85 => ?_)
              dsimp only [ucgo, ucwp, ucsC, uqC, uoC, ctC, rfd, KX3_judgeAssignment, KX3_judgeAssignment_0, KX3_judgeAssignment_17, KX3_judgeAssignment_18, KX3_judgeAssignment_27, KX3_judgeAssignment_38, KX3_judgeAssignment_63, KX3_judgeAssignment_67, KX3_judgeAssignment_68, KX3_judgeAssignment_73, KX3_judgeAssignment_89, KX3_judgeAssignment_93, KX3_judgeAssignment_123, lkC, s1C, s2C, dlC, kyC, Nat.beq, Nat.ble, rcd, rno, rsw, Nat.reduceAdd, Nat.reduceBEq, Nat.reduceDiv, List.drop, List.take, List.reverse, List.reverseAux, Int.toNat, Option.toList, List.append, List.cons_append, List.nil_append, zg61, zg62, zg68, zg73, zg331]
              try dsimp only [Qz_judgeAssignment]
              exact fun τ9 h9 => ⟨rfl, JqC.we h9 (Or.inl ⟨by unfold x9T; exact if_neg (fun q9 => q9.2.elim (fun q8 => by omega) (fun q8 => hcf q8.2)), qb64⟩)⟩
            · have g84 := (neI (x := (r53 &&& r64)) (y := 0) h84 : ¬ ((r53 &&& r64) : Int32).toInt = (0 : Int32).toInt)
              have z0_ : (0 : Int32).toInt = 0 := rfl
              exfalso
              omega
        · have g59 := (eqI (x := (fIC σ p1 61)) (y := (Int32.ofInt 8)) h59 : ((fIC σ p1 61) : Int32).toInt = ((Int32.ofInt 8) : Int32).toInt)
          refine hB _ _ _ _ _ (fun m86 hm86 => ?_)
          dsimp only [ucgo, ucwp, ucsC, uqC, uoC, ctC, rfd, KX3_judgeAssignment, KX3_judgeAssignment_0, KX3_judgeAssignment_17, KX3_judgeAssignment_18, KX3_judgeAssignment_27, KX3_judgeAssignment_38, KX3_judgeAssignment_63, KX3_judgeAssignment_67, KX3_judgeAssignment_68, KX3_judgeAssignment_73, KX3_judgeAssignment_89, KX3_judgeAssignment_93, KX3_judgeAssignment_123, lkC, s1C, s2C, dlC, kyC, Nat.beq, Nat.ble, rcd, rno, rsw, Nat.reduceAdd, Nat.reduceBEq, Nat.reduceDiv, List.drop, List.take, List.reverse, List.reverseAux, Int.toNat, Option.toList, List.append, List.cons_append, List.nil_append, zg61, zg62, zg68, zg73, zg331]
          intro a87 e87 ob87
          cases e87
          intro w88 τ88 o88 q88
          obtain ⟨r88, rfl, hr88, rfl⟩ := q88 (N, E, A, B, V, z) ⟨_, rfl⟩
          have hr88 : (r88.toInt = 1 ∧ (fIC σ b 68).toInt = -1) ∨ (r88.toInt = 0 ∧ ¬ (fIC σ b 68).toInt = -1) := by
            rcases hr88 with q9 | q9
            · exact Or.inl ⟨q9.1, q9.2 _ hb⟩
            · exact Or.inr ⟨q9.1, fun q8 => q9.2 (fun a9 q7 => by cases hb.symm.trans q7; exact q8)⟩
          try dsimp only [Option.toList, List.cons_append, List.nil_append, s1C, s2C, dlC, kyC, Nat.beq, lkC, rcd, rno, rsw]
          refine ⟨fun h89 => ?_, fun h89 => ?_⟩
          · have g89 := (neI (x := r88) (y := 0) h89 : ¬ (r88 : Int32).toInt = (0 : Int32).toInt)
            have z0_ : (0 : Int32).toInt = 0 := rfl
            refine hB _ _ _ _ _ (fun m90 hm90 => ?_)
            dsimp only [ucgo, ucwp, ucsC, uqC, uoC, ctC, rfd, KX3_judgeAssignment, KX3_judgeAssignment_0, KX3_judgeAssignment_17, KX3_judgeAssignment_18, KX3_judgeAssignment_27, KX3_judgeAssignment_38, KX3_judgeAssignment_63, KX3_judgeAssignment_67, KX3_judgeAssignment_68, KX3_judgeAssignment_73, KX3_judgeAssignment_89, KX3_judgeAssignment_93, KX3_judgeAssignment_123, lkC, s1C, s2C, dlC, kyC, Nat.beq, Nat.ble, rcd, rno, rsw, Nat.reduceAdd, Nat.reduceBEq, Nat.reduceDiv, List.drop, List.take, List.reverse, List.reverseAux, Int.toNat, Option.toList, List.append, List.cons_append, List.nil_append, zg61, zg62, zg68, zg73, zg331]
            have c91 : (Int32.ofInt 0).toInt = 0 := by decide
            refine hB _ _ _ _ _ (fun m92 hm92 => ?_)
            dsimp only [ucgo, ucwp, ucsC, uqC, uoC, ctC, rfd, KX3_judgeAssignment, KX3_judgeAssignment_0, KX3_judgeAssignment_17, KX3_judgeAssignment_18, KX3_judgeAssignment_27, KX3_judgeAssignment_38, KX3_judgeAssignment_63, KX3_judgeAssignment_67, KX3_judgeAssignment_68, KX3_judgeAssignment_73, KX3_judgeAssignment_89, KX3_judgeAssignment_93, KX3_judgeAssignment_123, lkC, s1C, s2C, dlC, kyC, Nat.beq, Nat.ble, rcd, rno, rsw, Nat.reduceAdd, Nat.reduceBEq, Nat.reduceDiv, List.drop, List.take, List.reverse, List.reverseAux, Int.toNat, Option.toList, List.append, List.cons_append, List.nil_append, zg61, zg62, zg68, zg73, zg331]
            have ia93 : (r53 &&& (Int32.ofInt 0)).toInt = if 1 = 1 ∧ 0 = 1 then 1 else 0 := and01 (x := r53) (y := (Int32.ofInt 0)) (a := 1) (b := 0) (by omega) (by omega) (by omega) (by omega)
            have ib93 : (r53 &&& (Int32.ofInt 0)).toInt = 0 := ia93.trans (by decide)
            refine hB _ _ _ _ _ (fun m94 hm94 => ?_)
            dsimp only [ucgo, ucwp, ucsC, uqC, uoC, ctC, rfd, KX3_judgeAssignment, KX3_judgeAssignment_0, KX3_judgeAssignment_17, KX3_judgeAssignment_18, KX3_judgeAssignment_27, KX3_judgeAssignment_38, KX3_judgeAssignment_63, KX3_judgeAssignment_67, KX3_judgeAssignment_68, KX3_judgeAssignment_73, KX3_judgeAssignment_89, KX3_judgeAssignment_93, KX3_judgeAssignment_123, lkC, s1C, s2C, dlC, kyC, Nat.beq, Nat.ble, rcd, rno, rsw, Nat.reduceAdd, Nat.reduceBEq, Nat.reduceDiv, List.drop, List.take, List.reverse, List.reverseAux, Int.toNat, Option.toList, List.append, List.cons_append, List.nil_append, zg61, zg62, zg68, zg73, zg331]
            refine ⟨fun h95 => ?_, fun h95 => ?_⟩
            · have g95 := (eqI (x := (r53 &&& (Int32.ofInt 0))) (y := 0) h95 : ((r53 &&& (Int32.ofInt 0)) : Int32).toInt = (0 : Int32).toInt)
              have z0_ : (0 : Int32).toInt = 0 := rfl
              refine hB _ _ _ _ _ (fun m96 hm96 => ?_)
              dsimp only [ucgo, ucwp, ucsC, uqC, uoC, ctC, rfd, KX3_judgeAssignment, KX3_judgeAssignment_0, KX3_judgeAssignment_17, KX3_judgeAssignment_18, KX3_judgeAssignment_27, KX3_judgeAssignment_38, KX3_judgeAssignment_63, KX3_judgeAssignment_67, KX3_judgeAssignment_68, KX3_judgeAssignment_73, KX3_judgeAssignment_89, KX3_judgeAssignment_93, KX3_judgeAssignment_123, lkC, s1C, s2C, dlC, kyC, Nat.beq, Nat.ble, rcd, rno, rsw, Nat.reduceAdd, Nat.reduceBEq, Nat.reduceDiv, List.drop, List.take, List.reverse, List.reverseAux, Int.toNat, Option.toList, List.append, List.cons_append, List.nil_append, zg61, zg62, zg68, zg73, zg331]
              try dsimp only [Qz_judgeAssignment]
              exfalso
              omega
            · have g95 := (neI (x := (r53 &&& (Int32.ofInt 0))) (y := 0) h95 : ¬ ((r53 &&& (Int32.ofInt 0)) : Int32).toInt = (0 : Int32).toInt)
              have z0_ : (0 : Int32).toInt = 0 := rfl
              exfalso
              omega
          · have g89 := (eqI (x := r88) (y := 0) h89 : (r88 : Int32).toInt = (0 : Int32).toInt)
            have z0_ : (0 : Int32).toInt = 0 := rfl
            refine hB _ _ _ _ _ (fun m97 hm97 => ?_)
            dsimp only [ucgo, ucwp, ucsC, uqC, uoC, ctC, rfd, KX3_judgeAssignment, KX3_judgeAssignment_0, KX3_judgeAssignment_17, KX3_judgeAssignment_18, KX3_judgeAssignment_27, KX3_judgeAssignment_38, KX3_judgeAssignment_63, KX3_judgeAssignment_67, KX3_judgeAssignment_68, KX3_judgeAssignment_73, KX3_judgeAssignment_89, KX3_judgeAssignment_93, KX3_judgeAssignment_123, lkC, s1C, s2C, dlC, kyC, Nat.beq, Nat.ble, rcd, rno, rsw, Nat.reduceAdd, Nat.reduceBEq, Nat.reduceDiv, List.drop, List.take, List.reverse, List.reverseAux, Int.toNat, Option.toList, List.append, List.cons_append, List.nil_append, zg61, zg62, zg68, zg73, zg331]
            intro a98 e98 ob98
            cases e98
            intro a99 e99 ob99
            cases e99
            have f100 : (fIC σ vo 331).toInt = (vtT C x.2.1.2.1).1 := hvv.1
            intro w101 τ101 o101 q101
            rw [hb] at q101 o101
            obtain ⟨r101, rfl, hr101, rfl⟩ := q101 (N, E, A, B, V, z) ⟨_, _, rfl⟩
            have hr101 : (r101.toInt = 1 ∧ ftT tb (vtT C x.2.1.2.1).1) ∨ (r101.toInt = 0 ∧ ¬ ftT tb (vtT C x.2.1.2.1).1) := by
              rw [show ((fIC σ vo 331) : Int32).toInt = (vtT C x.2.1.2.1).1 by omega, ft_c (a := tvC σ b) (b := tb) wb.1 wb.2.1 wb.2.2 _] at hr101
              exact hr101
            have hftn := hr101
            try dsimp only [Option.toList, List.cons_append, List.nil_append, s1C, s2C, dlC, kyC, Nat.beq, lkC, rcd, rno, rsw]
            intro a102 e102 ob102
            cases e102
            intro a103 e103 ob103
            obtain rfl : b = a103 := Option.some.inj (hb.symm.trans e103)
            intro w105 τ105 o105 q105
            obtain ⟨rfl, qq105⟩ := q105 (N, E, A, B, V, z) ⟨_, _, rfl, hP⟩
            rcases qq105 with ⟨qa105, rfl⟩ | ⟨qa105, qb105⟩
            · have qc105 := qa105
              try dsimp only [Option.toList, List.cons_append, List.nil_append, s1C, s2C, dlC, kyC, Nat.beq, lkC, rcd, rno, rsw]
              refine ⟨fun h106 => ?_, fun h106 => ?_⟩
              · have g106 := (eqI (x := r101) (y := 0) h106 : (r101 : Int32).toInt = (0 : Int32).toInt)
                have z0_ : (0 : Int32).toInt = 0 := rfl
                exfalso
                omega
              · have g106 := (neI (x := r101) (y := 0) h106 : ¬ (r101 : Int32).toInt = (0 : Int32).toInt)
                have z0_ : (0 : Int32).toInt = 0 := rfl
                refine hB _ _ _ _ _ (fun m107 hm107 => ?_)
                dsimp only [ucgo, ucwp, ucsC, uqC, uoC, ctC, rfd, KX3_judgeAssignment, KX3_judgeAssignment_0, KX3_judgeAssignment_17, KX3_judgeAssignment_18, KX3_judgeAssignment_27, KX3_judgeAssignment_38, KX3_judgeAssignment_63, KX3_judgeAssignment_67, KX3_judgeAssignment_68, KX3_judgeAssignment_73, KX3_judgeAssignment_89, KX3_judgeAssignment_93, KX3_judgeAssignment_123, lkC, s1C, s2C, dlC, kyC, Nat.beq, Nat.ble, rcd, rno, rsw, Nat.reduceAdd, Nat.reduceBEq, Nat.reduceDiv, List.drop, List.take, List.reverse, List.reverseAux, Int.toNat, Option.toList, List.append, List.cons_append, List.nil_append, zg61, zg62, zg68, zg73, zg331]
                have c108 : (Int32.ofInt 1).toInt = 1 := by decide
                refine hB _ _ _ _ _ (fun m109 hm109 => ?_)
                dsimp only [ucgo, ucwp, ucsC, uqC, uoC, ctC, rfd, KX3_judgeAssignment, KX3_judgeAssignment_0, KX3_judgeAssignment_17, KX3_judgeAssignment_18, KX3_judgeAssignment_27, KX3_judgeAssignment_38, KX3_judgeAssignment_63, KX3_judgeAssignment_67, KX3_judgeAssignment_68, KX3_judgeAssignment_73, KX3_judgeAssignment_89, KX3_judgeAssignment_93, KX3_judgeAssignment_123, lkC, s1C, s2C, dlC, kyC, Nat.beq, Nat.ble, rcd, rno, rsw, Nat.reduceAdd, Nat.reduceBEq, Nat.reduceDiv, List.drop, List.take, List.reverse, List.reverseAux, Int.toNat, Option.toList, List.append, List.cons_append, List.nil_append, zg61, zg62, zg68, zg73, zg331]
                have ia110 : (r53 &&& (Int32.ofInt 1)).toInt = if 1 = 1 ∧ 1 = 1 then 1 else 0 := and01 (x := r53) (y := (Int32.ofInt 1)) (a := 1) (b := 1) (by omega) (by omega) (by omega) (by omega)
                have ib110 : (r53 &&& (Int32.ofInt 1)).toInt = 1 := ia110.trans (by decide)
                refine hB _ _ _ _ _ (fun m111 hm111 => ?_)
                dsimp only [ucgo, ucwp, ucsC, uqC, uoC, ctC, rfd, KX3_judgeAssignment, KX3_judgeAssignment_0, KX3_judgeAssignment_17, KX3_judgeAssignment_18, KX3_judgeAssignment_27, KX3_judgeAssignment_38, KX3_judgeAssignment_63, KX3_judgeAssignment_67, KX3_judgeAssignment_68, KX3_judgeAssignment_73, KX3_judgeAssignment_89, KX3_judgeAssignment_93, KX3_judgeAssignment_123, lkC, s1C, s2C, dlC, kyC, Nat.beq, Nat.ble, rcd, rno, rsw, Nat.reduceAdd, Nat.reduceBEq, Nat.reduceDiv, List.drop, List.take, List.reverse, List.reverseAux, Int.toNat, Option.toList, List.append, List.cons_append, List.nil_append, zg61, zg62, zg68, zg73, zg331]
                refine ⟨fun h112 => ?_, fun h112 => ?_⟩
                · have g112 := (eqI (x := (r53 &&& (Int32.ofInt 1))) (y := 0) h112 : ((r53 &&& (Int32.ofInt 1)) : Int32).toInt = (0 : Int32).toInt)
                  have z0_ : (0 : Int32).toInt = 0 := rfl
                  exfalso
                  omega
                · have g112 := (neI (x := (r53 &&& (Int32.ofInt 1))) (y := 0) h112 : ¬ ((r53 &&& (Int32.ofInt 1)) : Int32).toInt = (0 : Int32).toInt)
                  have z0_ : (0 : Int32).toInt = 0 := rfl
                  refine hB _ _ _ _ _ (fun m113 hm113 => ?_)
                  dsimp only [ucgo, ucwp, ucsC, uqC, uoC, ctC, rfd, KX3_judgeAssignment, KX3_judgeAssignment_0, KX3_judgeAssignment_17, KX3_judgeAssignment_18, KX3_judgeAssignment_27, KX3_judgeAssignment_38, KX3_judgeAssignment_63, KX3_judgeAssignment_67, KX3_judgeAssignment_68, KX3_judgeAssignment_73, KX3_judgeAssignment_89, KX3_judgeAssignment_93, KX3_judgeAssignment_123, lkC, s1C, s2C, dlC, kyC, Nat.beq, Nat.ble, rcd, rno, rsw, Nat.reduceAdd, Nat.reduceBEq, Nat.reduceDiv, List.drop, List.take, List.reverse, List.reverseAux, Int.toNat, Option.toList, List.append, List.cons_append, List.nil_append, zg61, zg62, zg68, zg73, zg331]
                  intro a114 e114 ob114
                  cases e114
                  have f115 : (fIC σ vo 331).toInt = (vtT C x.2.1.2.1).1 := hvv.1
                  intro a116 e116 ob116 fk116
                  cases e116
                  clear fk116 ob116
                  generalize hs116 : pIC σ p1 68 (fIC σ vo 331) = s116
                  have hX116 : XuC [68, 69, 70, 71] σ s116 p1 := XuC.pI (M := [68, 69, 70, 71]) (XuC.rf) (by decide) hs116
                  have hv116 : (fIC σ vo 331).toInt = (vtT C x.2.1.2.1).1 := by omega
                  intro a117 e117 ob117
                  cases e117
                  have f118 : (fIC s116 p1 61).toInt = x.1.2.1 := (congrArg Int32.toInt (hX116.1 p1 61 (Or.inl (by decide))).1).trans hx.1.2.1
                  intro a119 e119 ob119
                  cases e119
                  have f120 : (fIC s116 vo 331).toInt = (vtT C x.2.1.2.1).1 := (congrArg Int32.toInt (hX116.1 vo 331 (Or.inl (by decide))).1).trans hvv.1
                  intro a121 e121 ob121
                  cases e121
                  intro a122 e122 ob122
                  obtain rfl : b = a122 := Option.some.inj (((hX116.1 p1 73 (Or.inl (by decide))).2.2.trans hb).symm.trans e122)
                  have f123 : (fIC s116 b 68).toInt = tb.1 := (congrArg Int32.toInt (hX116.1 b 68 (Or.inr nb)).1).trans wb.1
                  intro w124 τ124 o124 q124
                  obtain ⟨r124, rfl, hr124, rfl⟩ := q124 (N, E, A, B, V, z) ⟨_, _, _, rfl⟩
                  have hwt : r124.toInt = wrT x.1.2.1 (vtT C x.2.1.2.1).1 tb.1 := by rw [hr124, show ((fIC s116 p1 61) : Int32).toInt = x.1.2.1 by omega, show ((fIC s116 vo 331) : Int32).toInt = (vtT C x.2.1.2.1).1 by omega, show ((fIC s116 b 68) : Int32).toInt = tb.1 by omega]
                  try dsimp only [Option.toList, List.cons_append, List.nil_append, s1C, s2C, dlC, kyC, Nat.beq, lkC, rcd, rno, rsw]
                  intro a125 e125 ob125 fk125
                  cases e125
                  clear fk125 ob125
                  generalize hs125 : pIC s116 p1 69 r124 = s125
                  have hX125 : XuC [68, 69, 70, 71] σ s125 p1 := XuC.pI (M := [68, 69, 70, 71]) hX116 (by decide) hs125
                  have hv125 : r124.toInt = r124.toInt := by omega
                  refine hB _ _ _ _ _ (fun m126 hm126 => ?_)
                  dsimp only [ucgo, ucwp, ucsC, uqC, uoC, ctC, rfd, KX3_judgeAssignment, KX3_judgeAssignment_0, KX3_judgeAssignment_17, KX3_judgeAssignment_18, KX3_judgeAssignment_27, KX3_judgeAssignment_38, KX3_judgeAssignment_63, KX3_judgeAssignment_67, KX3_judgeAssignment_68, KX3_judgeAssignment_73, KX3_judgeAssignment_89, KX3_judgeAssignment_93, KX3_judgeAssignment_123, lkC, s1C, s2C, dlC, kyC, Nat.beq, Nat.ble, rcd, rno, rsw, Nat.reduceAdd, Nat.reduceBEq, Nat.reduceDiv, List.drop, List.take, List.reverse, List.reverseAux, Int.toNat, Option.toList, List.append, List.cons_append, List.nil_append, zg61, zg62, zg68, zg73, zg331]
                  try dsimp only [Qz_judgeAssignment]
                  exact fun τ9 h9 => ⟨rfl, JqC.we h9 (Or.inr ⟨((vtT C x.2.1.2.1).1, t.2.1, t.2.2.1, wrT x.1.2.1 (vtT C x.2.1.2.1).1 tb.1), by unfold x9T; rw [if_pos ⟨⟨hk52, hfin⟩, by first | exact Or.inr ⟨by omega, hct⟩ | exact Or.inl ⟨by omega, by rcases hftn with q8 | q8; exact q8.2; exact absurd q8.1 (by omega)⟩⟩], XuC.er (M := [68, 69, 70, 71]) hX125 (by decide) he, hX125, ⟨(congrArg Int32.toInt ((pI_o hs125 (by decide)).trans (pI_g hs116))).trans (by omega), (congrArg Int32.toInt ((pI_o hs125 (show (70 : Nat) ≠ 69 by decide)).trans ((pI_o hs116 (show (70 : Nat) ≠ 68 by decide)).trans rfl))).trans ht.2.1, ((pI_ol hs125).trans ((pI_ol hs116).trans rfl)).trans ht.2.2⟩, (by rw [we_i h9]; exact (congrArg Int32.toInt (pI_g hs125)).trans hwt)⟩)⟩
            · have hP105 : PjC E τ105 := hP.fr o105.2 rfl rfl
              try dsimp only [Option.toList, List.cons_append, List.nil_append, s1C, s2C, dlC, kyC, Nat.beq, lkC, rcd, rno, rsw]
              refine ⟨fun h127 => ?_, fun h127 => ?_⟩
              · have g127 := (eqI (x := r101) (y := 0) h127 : (r101 : Int32).toInt = (0 : Int32).toInt)
                have z0_ : (0 : Int32).toInt = 0 := rfl
                refine hB _ _ _ _ _ (fun m128 hm128 => ?_)
                dsimp only [ucgo, ucwp, ucsC, uqC, uoC, ctC, rfd, KX3_judgeAssignment, KX3_judgeAssignment_0, KX3_judgeAssignment_17, KX3_judgeAssignment_18, KX3_judgeAssignment_27, KX3_judgeAssignment_38, KX3_judgeAssignment_63, KX3_judgeAssignment_67, KX3_judgeAssignment_68, KX3_judgeAssignment_73, KX3_judgeAssignment_89, KX3_judgeAssignment_93, KX3_judgeAssignment_123, lkC, s1C, s2C, dlC, kyC, Nat.beq, Nat.ble, rcd, rno, rsw, Nat.reduceAdd, Nat.reduceBEq, Nat.reduceDiv, List.drop, List.take, List.reverse, List.reverseAux, Int.toNat, Option.toList, List.append, List.cons_append, List.nil_append, zg61, zg62, zg68, zg73, zg331]
                have c129 : (Int32.ofInt 0).toInt = 0 := by decide
                refine hB _ _ _ _ _ (fun m130 hm130 => ?_)
                dsimp only [ucgo, ucwp, ucsC, uqC, uoC, ctC, rfd, KX3_judgeAssignment, KX3_judgeAssignment_0, KX3_judgeAssignment_17, KX3_judgeAssignment_18, KX3_judgeAssignment_27, KX3_judgeAssignment_38, KX3_judgeAssignment_63, KX3_judgeAssignment_67, KX3_judgeAssignment_68, KX3_judgeAssignment_73, KX3_judgeAssignment_89, KX3_judgeAssignment_93, KX3_judgeAssignment_123, lkC, s1C, s2C, dlC, kyC, Nat.beq, Nat.ble, rcd, rno, rsw, Nat.reduceAdd, Nat.reduceBEq, Nat.reduceDiv, List.drop, List.take, List.reverse, List.reverseAux, Int.toNat, Option.toList, List.append, List.cons_append, List.nil_append, zg61, zg62, zg68, zg73, zg331]
                have ia131 : (r53 &&& (Int32.ofInt 0)).toInt = if 1 = 1 ∧ 0 = 1 then 1 else 0 := and01 (x := r53) (y := (Int32.ofInt 0)) (a := 1) (b := 0) (by omega) (by omega) (by omega) (by omega)
                have ib131 : (r53 &&& (Int32.ofInt 0)).toInt = 0 := ia131.trans (by decide)
                refine hB _ _ _ _ _ (fun m132 hm132 => ?_)
                dsimp only [ucgo, ucwp, ucsC, uqC, uoC, ctC, rfd, KX3_judgeAssignment, KX3_judgeAssignment_0, KX3_judgeAssignment_17, KX3_judgeAssignment_18, KX3_judgeAssignment_27, KX3_judgeAssignment_38, KX3_judgeAssignment_63, KX3_judgeAssignment_67, KX3_judgeAssignment_68, KX3_judgeAssignment_73, KX3_judgeAssignment_89, KX3_judgeAssignment_93, KX3_judgeAssignment_123, lkC, s1C, s2C, dlC, kyC, Nat.beq, Nat.ble, rcd, rno, rsw, Nat.reduceAdd, Nat.reduceBEq, Nat.reduceDiv, List.drop, List.take, List.reverse, List.reverseAux, Int.toNat, Option.toList, List.append, List.cons_append, List.nil_append, zg61, zg62, zg68, zg73, zg331]
                refine ⟨fun h133 => ?_, fun h133 => ?_⟩
                · have g133 := (eqI (x := (r53 &&& (Int32.ofInt 0))) (y := 0) h133 : ((r53 &&& (Int32.ofInt 0)) : Int32).toInt = (0 : Int32).toInt)
                  have z0_ : (0 : Int32).toInt = 0 := rfl
                  refine hB _ _ _ _ _ (fun m134 hm134 => ?_)
                  dsimp only [ucgo, ucwp, ucsC, uqC, uoC, ctC, rfd, KX3_judgeAssignment, KX3_judgeAssignment_0, KX3_judgeAssignment_17, KX3_judgeAssignment_18, KX3_judgeAssignment_27, KX3_judgeAssignment_38, KX3_judgeAssignment_63, KX3_judgeAssignment_67, KX3_judgeAssignment_68, KX3_judgeAssignment_73, KX3_judgeAssignment_89, KX3_judgeAssignment_93, KX3_judgeAssignment_123, lkC, s1C, s2C, dlC, kyC, Nat.beq, Nat.ble, rcd, rno, rsw, Nat.reduceAdd, Nat.reduceBEq, Nat.reduceDiv, List.drop, List.take, List.reverse, List.reverseAux, Int.toNat, Option.toList, List.append, List.cons_append, List.nil_append, zg61, zg62, zg68, zg73, zg331]
                  try dsimp only [Qz_judgeAssignment]
                  exact fun τ9 h9 => ⟨rfl, JqC.we h9 (Or.inl ⟨by unfold x9T; exact if_neg (fun q9 => q9.2.elim (fun q8 => hftn.elim (fun q7 => by omega) (fun q7 => q7.2 q8.2)) (fun q8 => by omega)), qb105⟩)⟩
                · have g133 := (neI (x := (r53 &&& (Int32.ofInt 0))) (y := 0) h133 : ¬ ((r53 &&& (Int32.ofInt 0)) : Int32).toInt = (0 : Int32).toInt)
                  have z0_ : (0 : Int32).toInt = 0 := rfl
                  exfalso
                  omega
              · have g127 := (neI (x := r101) (y := 0) h127 : ¬ (r101 : Int32).toInt = (0 : Int32).toInt)
                have z0_ : (0 : Int32).toInt = 0 := rfl
                exfalso
                omega
      · cases h54
    · have hfin : ¬ (vtT C x.2.1.2.1).2 = 0 := fun q9 => qf53 _ rfl (hvv.2.trans q9)
      have hP53 : PjC E τ53 := hP.fr o53.2 rfl rfl
      try dsimp only [Option.toList, List.cons_append, List.nil_append, s1C, s2C, dlC, kyC, Nat.beq, lkC, rcd, rno, rsw]
      refine ⟨fun b135 h135 => ?_, fun h135 => ?_⟩
      · cases h135
        refine hB _ _ _ _ _ (fun m136 hm136 => ?_)
        dsimp only [ucgo, ucwp, ucsC, uqC, uoC, ctC, rfd, KX3_judgeAssignment, KX3_judgeAssignment_0, KX3_judgeAssignment_17, KX3_judgeAssignment_18, KX3_judgeAssignment_27, KX3_judgeAssignment_38, KX3_judgeAssignment_63, KX3_judgeAssignment_67, KX3_judgeAssignment_68, KX3_judgeAssignment_73, KX3_judgeAssignment_89, KX3_judgeAssignment_93, KX3_judgeAssignment_123, lkC, s1C, s2C, dlC, kyC, Nat.beq, Nat.ble, rcd, rno, rsw, Nat.reduceAdd, Nat.reduceBEq, Nat.reduceDiv, List.drop, List.take, List.reverse, List.reverseAux, Int.toNat, Option.toList, List.append, List.cons_append, List.nil_append, zg61, zg62, zg68, zg73, zg331]
        intro a137 e137 ob137
        cases e137
        have c138 : (Int32.ofInt 8).toInt = 8 := by decide
        refine ⟨fun h139 => ?_, fun h139 => ?_⟩
        · have g139 := (neI (x := (fIC τ53 p1 61)) (y := (Int32.ofInt 8)) h139 : ¬ ((fIC τ53 p1 61) : Int32).toInt = ((Int32.ofInt 8) : Int32).toInt)
          refine hB _ _ _ _ _ (fun m140 hm140 => ?_)
          dsimp only [ucgo, ucwp, ucsC, uqC, uoC, ctC, rfd, KX3_judgeAssignment, KX3_judgeAssignment_0, KX3_judgeAssignment_17, KX3_judgeAssignment_18, KX3_judgeAssignment_27, KX3_judgeAssignment_38, KX3_judgeAssignment_63, KX3_judgeAssignment_67, KX3_judgeAssignment_68, KX3_judgeAssignment_73, KX3_judgeAssignment_89, KX3_judgeAssignment_93, KX3_judgeAssignment_123, lkC, s1C, s2C, dlC, kyC, Nat.beq, Nat.ble, rcd, rno, rsw, Nat.reduceAdd, Nat.reduceBEq, Nat.reduceDiv, List.drop, List.take, List.reverse, List.reverseAux, Int.toNat, Option.toList, List.append, List.cons_append, List.nil_append, zg61, zg62, zg68, zg73, zg331]
          intro a141 e141 ob141
          cases e141
          intro a142 e142 ob142
          cases e142
          intro w143 τ143 o143 q143
          rw [(((o53.2.2 rfl p1 hlt).1 73 rfl).2.2.trans hb)] at q143 o143
          have hb143 : erC E τ143 := o143.1.2.2.2 rfl (E 1) hP53.2.1 qb53
          have hP143 : PjC E τ143 := hP53.fr o143.2 rfl rfl
          obtain ⟨r143, rfl, -⟩ := q143 (N, E, A, B, V, z) ⟨_, _, _, rfl, hP53⟩
          try dsimp only [Option.toList, List.cons_append, List.nil_append, s1C, s2C, dlC, kyC, Nat.beq, lkC, rcd, rno, rsw]
          have ia144 : (r53 &&& r143).toInt = 0 := and00 (by omega)
          refine hB _ _ _ _ _ (fun m145 hm145 => ?_)
          dsimp only [ucgo, ucwp, ucsC, uqC, uoC, ctC, rfd, KX3_judgeAssignment, KX3_judgeAssignment_0, KX3_judgeAssignment_17, KX3_judgeAssignment_18, KX3_judgeAssignment_27, KX3_judgeAssignment_38, KX3_judgeAssignment_63, KX3_judgeAssignment_67, KX3_judgeAssignment_68, KX3_judgeAssignment_73, KX3_judgeAssignment_89, KX3_judgeAssignment_93, KX3_judgeAssignment_123, lkC, s1C, s2C, dlC, kyC, Nat.beq, Nat.ble, rcd, rno, rsw, Nat.reduceAdd, Nat.reduceBEq, Nat.reduceDiv, List.drop, List.take, List.reverse, List.reverseAux, Int.toNat, Option.toList, List.append, List.cons_append, List.nil_append, zg61, zg62, zg68, zg73, zg331]
          refine ⟨fun h146 => ?_, fun h146 => ?_⟩
          · have g146 := (eqI (x := (r53 &&& r143)) (y := 0) h146 : ((r53 &&& r143) : Int32).toInt = (0 : Int32).toInt)
            have z0_ : (0 : Int32).toInt = 0 := rfl
            refine hB _ _ _ _ _ (fun m147 hm147 => ?_)
            dsimp only [ucgo, ucwp, ucsC, uqC, uoC, ctC, rfd, KX3_judgeAssignment, KX3_judgeAssignment_0, KX3_judgeAssignment_17, KX3_judgeAssignment_18, KX3_judgeAssignment_27, KX3_judgeAssignment_38, KX3_judgeAssignment_63, KX3_judgeAssignment_67, KX3_judgeAssignment_68, KX3_judgeAssignment_73, KX3_judgeAssignment_89, KX3_judgeAssignment_93, KX3_judgeAssignment_123, lkC, s1C, s2C, dlC, kyC, Nat.beq, Nat.ble, rcd, rno, rsw, Nat.reduceAdd, Nat.reduceBEq, Nat.reduceDiv, List.drop, List.take, List.reverse, List.reverseAux, Int.toNat, Option.toList, List.append, List.cons_append, List.nil_append, zg61, zg62, zg68, zg73, zg331]
            try dsimp only [Qz_judgeAssignment]
            exact fun τ9 h9 => ⟨rfl, JqC.we h9 (Or.inl ⟨by unfold x9T; exact if_neg (fun q9 => hfin q9.1.2), hb143⟩)⟩
          · have g146 := (neI (x := (r53 &&& r143)) (y := 0) h146 : ¬ ((r53 &&& r143) : Int32).toInt = (0 : Int32).toInt)
            have z0_ : (0 : Int32).toInt = 0 := rfl
            exfalso
            omega
        · have g139 := (eqI (x := (fIC τ53 p1 61)) (y := (Int32.ofInt 8)) h139 : ((fIC τ53 p1 61) : Int32).toInt = ((Int32.ofInt 8) : Int32).toInt)
          refine hB _ _ _ _ _ (fun m148 hm148 => ?_)
          dsimp only [ucgo, ucwp, ucsC, uqC, uoC, ctC, rfd, KX3_judgeAssignment, KX3_judgeAssignment_0, KX3_judgeAssignment_17, KX3_judgeAssignment_18, KX3_judgeAssignment_27, KX3_judgeAssignment_38, KX3_judgeAssignment_63, KX3_judgeAssignment_67, KX3_judgeAssignment_68, KX3_judgeAssignment_73, KX3_judgeAssignment_89, KX3_judgeAssignment_93, KX3_judgeAssignment_123, lkC, s1C, s2C, dlC, kyC, Nat.beq, Nat.ble, rcd, rno, rsw, Nat.reduceAdd, Nat.reduceBEq, Nat.reduceDiv, List.drop, List.take, List.reverse, List.reverseAux, Int.toNat, Option.toList, List.append, List.cons_append, List.nil_append, zg61, zg62, zg68, zg73, zg331]
          intro a149 e149 ob149
          cases e149
          intro w150 τ150 o150 q150
          obtain ⟨r150, rfl, hr150, rfl⟩ := q150 (N, E, A, B, V, z) ⟨_, rfl⟩
          try dsimp only [Option.toList, List.cons_append, List.nil_append, s1C, s2C, dlC, kyC, Nat.beq, lkC, rcd, rno, rsw]
          refine ⟨fun h151 => ?_, fun h151 => ?_⟩
          · have g151 := (neI (x := r150) (y := 0) h151 : ¬ (r150 : Int32).toInt = (0 : Int32).toInt)
            have z0_ : (0 : Int32).toInt = 0 := rfl
            refine hB _ _ _ _ _ (fun m152 hm152 => ?_)
            dsimp only [ucgo, ucwp, ucsC, uqC, uoC, ctC, rfd, KX3_judgeAssignment, KX3_judgeAssignment_0, KX3_judgeAssignment_17, KX3_judgeAssignment_18, KX3_judgeAssignment_27, KX3_judgeAssignment_38, KX3_judgeAssignment_63, KX3_judgeAssignment_67, KX3_judgeAssignment_68, KX3_judgeAssignment_73, KX3_judgeAssignment_89, KX3_judgeAssignment_93, KX3_judgeAssignment_123, lkC, s1C, s2C, dlC, kyC, Nat.beq, Nat.ble, rcd, rno, rsw, Nat.reduceAdd, Nat.reduceBEq, Nat.reduceDiv, List.drop, List.take, List.reverse, List.reverseAux, Int.toNat, Option.toList, List.append, List.cons_append, List.nil_append, zg61, zg62, zg68, zg73, zg331]
            have c153 : (Int32.ofInt 0).toInt = 0 := by decide
            refine hB _ _ _ _ _ (fun m154 hm154 => ?_)
            dsimp only [ucgo, ucwp, ucsC, uqC, uoC, ctC, rfd, KX3_judgeAssignment, KX3_judgeAssignment_0, KX3_judgeAssignment_17, KX3_judgeAssignment_18, KX3_judgeAssignment_27, KX3_judgeAssignment_38, KX3_judgeAssignment_63, KX3_judgeAssignment_67, KX3_judgeAssignment_68, KX3_judgeAssignment_73, KX3_judgeAssignment_89, KX3_judgeAssignment_93, KX3_judgeAssignment_123, lkC, s1C, s2C, dlC, kyC, Nat.beq, Nat.ble, rcd, rno, rsw, Nat.reduceAdd, Nat.reduceBEq, Nat.reduceDiv, List.drop, List.take, List.reverse, List.reverseAux, Int.toNat, Option.toList, List.append, List.cons_append, List.nil_append, zg61, zg62, zg68, zg73, zg331]
            have ia155 : (r53 &&& (Int32.ofInt 0)).toInt = if 0 = 1 ∧ 0 = 1 then 1 else 0 := and01 (x := r53) (y := (Int32.ofInt 0)) (a := 0) (b := 0) (by omega) (by omega) (by omega) (by omega)
            have ib155 : (r53 &&& (Int32.ofInt 0)).toInt = 0 := ia155.trans (by decide)
            refine hB _ _ _ _ _ (fun m156 hm156 => ?_)
            dsimp only [ucgo, ucwp, ucsC, uqC, uoC, ctC, rfd, KX3_judgeAssignment, KX3_judgeAssignment_0, KX3_judgeAssignment_17, KX3_judgeAssignment_18, KX3_judgeAssignment_27, KX3_judgeAssignment_38, KX3_judgeAssignment_63, KX3_judgeAssignment_67, KX3_judgeAssignment_68, KX3_judgeAssignment_73, KX3_judgeAssignment_89, KX3_judgeAssignment_93, KX3_judgeAssignment_123, lkC, s1C, s2C, dlC, kyC, Nat.beq, Nat.ble, rcd, rno, rsw, Nat.reduceAdd, Nat.reduceBEq, Nat.reduceDiv, List.drop, List.take, List.reverse, List.reverseAux, Int.toNat, Option.toList, List.append, List.cons_append, List.nil_append, zg61, zg62, zg68, zg73, zg331]
            refine ⟨fun h157 => ?_, fun h157 => ?_⟩
            · have g157 := (eqI (x := (r53 &&& (Int32.ofInt 0))) (y := 0) h157 : ((r53 &&& (Int32.ofInt 0)) : Int32).toInt = (0 : Int32).toInt)
              have z0_ : (0 : Int32).toInt = 0 := rfl
              refine hB _ _ _ _ _ (fun m158 hm158 => ?_)
              dsimp only [ucgo, ucwp, ucsC, uqC, uoC, ctC, rfd, KX3_judgeAssignment, KX3_judgeAssignment_0, KX3_judgeAssignment_17, KX3_judgeAssignment_18, KX3_judgeAssignment_27, KX3_judgeAssignment_38, KX3_judgeAssignment_63, KX3_judgeAssignment_67, KX3_judgeAssignment_68, KX3_judgeAssignment_73, KX3_judgeAssignment_89, KX3_judgeAssignment_93, KX3_judgeAssignment_123, lkC, s1C, s2C, dlC, kyC, Nat.beq, Nat.ble, rcd, rno, rsw, Nat.reduceAdd, Nat.reduceBEq, Nat.reduceDiv, List.drop, List.take, List.reverse, List.reverseAux, Int.toNat, Option.toList, List.append, List.cons_append, List.nil_append, zg61, zg62, zg68, zg73, zg331]
              try dsimp only [Qz_judgeAssignment]
              exact fun τ9 h9 => ⟨rfl, JqC.we h9 (Or.inl ⟨by unfold x9T; exact if_neg (fun q9 => hfin q9.1.2), qb53⟩)⟩
            · have g157 := (neI (x := (r53 &&& (Int32.ofInt 0))) (y := 0) h157 : ¬ ((r53 &&& (Int32.ofInt 0)) : Int32).toInt = (0 : Int32).toInt)
              have z0_ : (0 : Int32).toInt = 0 := rfl
              exfalso
              omega
          · have g151 := (eqI (x := r150) (y := 0) h151 : (r150 : Int32).toInt = (0 : Int32).toInt)
            have z0_ : (0 : Int32).toInt = 0 := rfl
            refine hB _ _ _ _ _ (fun m159 hm159 => ?_)
            dsimp only [ucgo, ucwp, ucsC, uqC, uoC, ctC, rfd, KX3_judgeAssignment, KX3_judgeAssignment_0, KX3_judgeAssignment_17, KX3_judgeAssignment_18, KX3_judgeAssignment_27, KX3_judgeAssignment_38, KX3_judgeAssignment_63, KX3_judgeAssignment_67, KX3_judgeAssignment_68, KX3_judgeAssignment_73, KX3_judgeAssignment_89, KX3_judgeAssignment_93, KX3_judgeAssignment_123, lkC, s1C, s2C, dlC, kyC, Nat.beq, Nat.ble, rcd, rno, rsw, Nat.reduceAdd, Nat.reduceBEq, Nat.reduceDiv, List.drop, List.take, List.reverse, List.reverseAux, Int.toNat, Option.toList, List.append, List.cons_append, List.nil_append, zg61, zg62, zg68, zg73, zg331]
            intro a160 e160 ob160
            cases e160
            intro a161 e161 ob161
            cases e161
            intro w162 τ162 o162 q162
            rw [(((o53.2.2 rfl p1 hlt).1 73 rfl).2.2.trans hb)] at q162 o162
            obtain ⟨r162, rfl, hr162, rfl⟩ := q162 (N, E, A, B, V, z) ⟨_, _, rfl⟩
            try dsimp only [Option.toList, List.cons_append, List.nil_append, s1C, s2C, dlC, kyC, Nat.beq, lkC, rcd, rno, rsw]
            intro a163 e163 ob163
            cases e163
            intro a164 e164 ob164
            obtain rfl : b = a164 := Option.some.inj ((((o53.2.2 rfl p1 hlt).1 73 rfl).2.2.trans hb).symm.trans e164)
            intro w165 τ165 o165 q165
            have hb165 : erC E τ165 := o165.1.2.2.2 rfl (E 1) hP53.2.1 qb53
            have hP165 : PjC E τ165 := hP53.fr o165.2 rfl rfl
            obtain ⟨rfl, -⟩ := q165 (N, E, A, B, V, z) ⟨_, _, rfl, hP53⟩
            try dsimp only [Option.toList, List.cons_append, List.nil_append, s1C, s2C, dlC, kyC, Nat.beq, lkC, rcd, rno, rsw]
            refine ⟨fun h166 => ?_, fun h166 => ?_⟩
            · have g166 := (eqI (x := r162) (y := 0) h166 : (r162 : Int32).toInt = (0 : Int32).toInt)
              have z0_ : (0 : Int32).toInt = 0 := rfl
              refine hB _ _ _ _ _ (fun m167 hm167 => ?_)
              dsimp only [ucgo, ucwp, ucsC, uqC, uoC, ctC, rfd, KX3_judgeAssignment, KX3_judgeAssignment_0, KX3_judgeAssignment_17, KX3_judgeAssignment_18, KX3_judgeAssignment_27, KX3_judgeAssignment_38, KX3_judgeAssignment_63, KX3_judgeAssignment_67, KX3_judgeAssignment_68, KX3_judgeAssignment_73, KX3_judgeAssignment_89, KX3_judgeAssignment_93, KX3_judgeAssignment_123, lkC, s1C, s2C, dlC, kyC, Nat.beq, Nat.ble, rcd, rno, rsw, Nat.reduceAdd, Nat.reduceBEq, Nat.reduceDiv, List.drop, List.take, List.reverse, List.reverseAux, Int.toNat, Option.toList, List.append, List.cons_append, List.nil_append, zg61, zg62, zg68, zg73, zg331]
              have c168 : (Int32.ofInt 0).toInt = 0 := by decide
              refine hB _ _ _ _ _ (fun m169 hm169 => ?_)
              dsimp only [ucgo, ucwp, ucsC, uqC, uoC, ctC, rfd, KX3_judgeAssignment, KX3_judgeAssignment_0, KX3_judgeAssignment_17, KX3_judgeAssignment_18, KX3_judgeAssignment_27, KX3_judgeAssignment_38, KX3_judgeAssignment_63, KX3_judgeAssignment_67, KX3_judgeAssignment_68, KX3_judgeAssignment_73, KX3_judgeAssignment_89, KX3_judgeAssignment_93, KX3_judgeAssignment_123, lkC, s1C, s2C, dlC, kyC, Nat.beq, Nat.ble, rcd, rno, rsw, Nat.reduceAdd, Nat.reduceBEq, Nat.reduceDiv, List.drop, List.take, List.reverse, List.reverseAux, Int.toNat, Option.toList, List.append, List.cons_append, List.nil_append, zg61, zg62, zg68, zg73, zg331]
              have ia170 : (r53 &&& (Int32.ofInt 0)).toInt = if 0 = 1 ∧ 0 = 1 then 1 else 0 := and01 (x := r53) (y := (Int32.ofInt 0)) (a := 0) (b := 0) (by omega) (by omega) (by omega) (by omega)
              have ib170 : (r53 &&& (Int32.ofInt 0)).toInt = 0 := ia170.trans (by decide)
              refine hB _ _ _ _ _ (fun m171 hm171 => ?_)
              dsimp only [ucgo, ucwp, ucsC, uqC, uoC, ctC, rfd, KX3_judgeAssignment, KX3_judgeAssignment_0, KX3_judgeAssignment_17, KX3_judgeAssignment_18, KX3_judgeAssignment_27, KX3_judgeAssignment_38, KX3_judgeAssignment_63, KX3_judgeAssignment_67, KX3_judgeAssignment_68, KX3_judgeAssignment_73, KX3_judgeAssignment_89, KX3_judgeAssignment_93, KX3_judgeAssignment_123, lkC, s1C, s2C, dlC, kyC, Nat.beq, Nat.ble, rcd, rno, rsw, Nat.reduceAdd, Nat.reduceBEq, Nat.reduceDiv, List.drop, List.take, List.reverse, List.reverseAux, Int.toNat, Option.toList, List.append, List.cons_append, List.nil_append, zg61, zg62, zg68, zg73, zg331]
              refine ⟨fun h172 => ?_, fun h172 => ?_⟩
              · have g172 := (eqI (x := (r53 &&& (Int32.ofInt 0))) (y := 0) h172 : ((r53 &&& (Int32.ofInt 0)) : Int32).toInt = (0 : Int32).toInt)
                have z0_ : (0 : Int32).toInt = 0 := rfl
                refine hB _ _ _ _ _ (fun m173 hm173 => ?_)
                dsimp only [ucgo, ucwp, ucsC, uqC, uoC, ctC, rfd, KX3_judgeAssignment, KX3_judgeAssignment_0, KX3_judgeAssignment_17, KX3_judgeAssignment_18, KX3_judgeAssignment_27, KX3_judgeAssignment_38, KX3_judgeAssignment_63, KX3_judgeAssignment_67, KX3_judgeAssignment_68, KX3_judgeAssignment_73, KX3_judgeAssignment_89, KX3_judgeAssignment_93, KX3_judgeAssignment_123, lkC, s1C, s2C, dlC, kyC, Nat.beq, Nat.ble, rcd, rno, rsw, Nat.reduceAdd, Nat.reduceBEq, Nat.reduceDiv, List.drop, List.take, List.reverse, List.reverseAux, Int.toNat, Option.toList, List.append, List.cons_append, List.nil_append, zg61, zg62, zg68, zg73, zg331]
                try dsimp only [Qz_judgeAssignment]
                exact fun τ9 h9 => ⟨rfl, JqC.we h9 (Or.inl ⟨by unfold x9T; exact if_neg (fun q9 => hfin q9.1.2), hb165⟩)⟩
              · have g172 := (neI (x := (r53 &&& (Int32.ofInt 0))) (y := 0) h172 : ¬ ((r53 &&& (Int32.ofInt 0)) : Int32).toInt = (0 : Int32).toInt)
                have z0_ : (0 : Int32).toInt = 0 := rfl
                exfalso
                omega
            · have g166 := (neI (x := r162) (y := 0) h166 : ¬ (r162 : Int32).toInt = (0 : Int32).toInt)
              have z0_ : (0 : Int32).toInt = 0 := rfl
              refine hB _ _ _ _ _ (fun m174 hm174 => ?_)
              dsimp only [ucgo, ucwp, ucsC, uqC, uoC, ctC, rfd, KX3_judgeAssignment, KX3_judgeAssignment_0, KX3_judgeAssignment_17, KX3_judgeAssignment_18, KX3_judgeAssignment_27, KX3_judgeAssignment_38, KX3_judgeAssignment_63, KX3_judgeAssignment_67, KX3_judgeAssignment_68, KX3_judgeAssignment_73, KX3_judgeAssignment_89, KX3_judgeAssignment_93, KX3_judgeAssignment_123, lkC, s1C, s2C, dlC, kyC, Nat.beq, Nat.ble, rcd, rno, rsw, Nat.reduceAdd, Nat.reduceBEq, Nat.reduceDiv, List.drop, List.take, List.reverse, List.reverseAux, Int.toNat, Option.toList, List.append, List.cons_append, List.nil_append, zg61, zg62, zg68, zg73, zg331]
              have c175 : (Int32.ofInt 1).toInt = 1 := by decide
              refine hB _ _ _ _ _ (fun m176 hm176 => ?_)
              dsimp only [ucgo, ucwp, ucsC, uqC, uoC, ctC, rfd, KX3_judgeAssignment, KX3_judgeAssignment_0, KX3_judgeAssignment_17, KX3_judgeAssignment_18, KX3_judgeAssignment_27, KX3_judgeAssignment_38, KX3_judgeAssignment_63, KX3_judgeAssignment_67, KX3_judgeAssignment_68, KX3_judgeAssignment_73, KX3_judgeAssignment_89, KX3_judgeAssignment_93, KX3_judgeAssignment_123, lkC, s1C, s2C, dlC, kyC, Nat.beq, Nat.ble, rcd, rno, rsw, Nat.reduceAdd, Nat.reduceBEq, Nat.reduceDiv, List.drop, List.take, List.reverse, List.reverseAux, Int.toNat, Option.toList, List.append, List.cons_append, List.nil_append, zg61, zg62, zg68, zg73, zg331]
              have ia177 : (r53 &&& (Int32.ofInt 1)).toInt = if 0 = 1 ∧ 1 = 1 then 1 else 0 := and01 (x := r53) (y := (Int32.ofInt 1)) (a := 0) (b := 1) (by omega) (by omega) (by omega) (by omega)
              have ib177 : (r53 &&& (Int32.ofInt 1)).toInt = 0 := ia177.trans (by decide)
              refine hB _ _ _ _ _ (fun m178 hm178 => ?_)
              dsimp only [ucgo, ucwp, ucsC, uqC, uoC, ctC, rfd, KX3_judgeAssignment, KX3_judgeAssignment_0, KX3_judgeAssignment_17, KX3_judgeAssignment_18, KX3_judgeAssignment_27, KX3_judgeAssignment_38, KX3_judgeAssignment_63, KX3_judgeAssignment_67, KX3_judgeAssignment_68, KX3_judgeAssignment_73, KX3_judgeAssignment_89, KX3_judgeAssignment_93, KX3_judgeAssignment_123, lkC, s1C, s2C, dlC, kyC, Nat.beq, Nat.ble, rcd, rno, rsw, Nat.reduceAdd, Nat.reduceBEq, Nat.reduceDiv, List.drop, List.take, List.reverse, List.reverseAux, Int.toNat, Option.toList, List.append, List.cons_append, List.nil_append, zg61, zg62, zg68, zg73, zg331]
              refine ⟨fun h179 => ?_, fun h179 => ?_⟩
              · have g179 := (eqI (x := (r53 &&& (Int32.ofInt 1))) (y := 0) h179 : ((r53 &&& (Int32.ofInt 1)) : Int32).toInt = (0 : Int32).toInt)
                have z0_ : (0 : Int32).toInt = 0 := rfl
                refine hB _ _ _ _ _ (fun m180 hm180 => ?_)
                dsimp only [ucgo, ucwp, ucsC, uqC, uoC, ctC, rfd, KX3_judgeAssignment, KX3_judgeAssignment_0, KX3_judgeAssignment_17, KX3_judgeAssignment_18, KX3_judgeAssignment_27, KX3_judgeAssignment_38, KX3_judgeAssignment_63, KX3_judgeAssignment_67, KX3_judgeAssignment_68, KX3_judgeAssignment_73, KX3_judgeAssignment_89, KX3_judgeAssignment_93, KX3_judgeAssignment_123, lkC, s1C, s2C, dlC, kyC, Nat.beq, Nat.ble, rcd, rno, rsw, Nat.reduceAdd, Nat.reduceBEq, Nat.reduceDiv, List.drop, List.take, List.reverse, List.reverseAux, Int.toNat, Option.toList, List.append, List.cons_append, List.nil_append, zg61, zg62, zg68, zg73, zg331]
                try dsimp only [Qz_judgeAssignment]
                exact fun τ9 h9 => ⟨rfl, JqC.we h9 (Or.inl ⟨by unfold x9T; exact if_neg (fun q9 => hfin q9.1.2), hb165⟩)⟩
              · have g179 := (neI (x := (r53 &&& (Int32.ofInt 1))) (y := 0) h179 : ¬ ((r53 &&& (Int32.ofInt 1)) : Int32).toInt = (0 : Int32).toInt)
                have z0_ : (0 : Int32).toInt = 0 := rfl
                exfalso
                omega
      · cases h135
  · have hkn := hk52
    try dsimp only [Option.toList, List.cons_append, List.nil_append, s1C, s2C, dlC, kyC, Nat.beq, lkC, rcd, rno, rsw]
    intro w181 τ181 o181 q181
    obtain ⟨r181, rfl, qq181⟩ := q181 (N, E, A, B, V, z) ⟨_, _, rfl, hP, fun o9 q9 => by cases q9⟩
    rcases qq181 with ⟨hr181, ⟨o181_, qo181, qf181⟩, rfl⟩ | ⟨hr181, qf181, qb181⟩
    · cases qo181
    · have hfin := hkn
      have hP181 : PjC E τ181 := hP.fr o181.2 rfl rfl
      try dsimp only [Option.toList, List.cons_append, List.nil_append, s1C, s2C, dlC, kyC, Nat.beq, lkC, rcd, rno, rsw]
      refine ⟨fun b182 h182 => ?_, fun h182 => ?_⟩
      · cases h182
      · skip
        refine hB _ _ _ _ _ (fun m183 hm183 => ?_)
        dsimp only [ucgo, ucwp, ucsC, uqC, uoC, ctC, rfd, KX3_judgeAssignment, KX3_judgeAssignment_0, KX3_judgeAssignment_17, KX3_judgeAssignment_18, KX3_judgeAssignment_27, KX3_judgeAssignment_38, KX3_judgeAssignment_63, KX3_judgeAssignment_67, KX3_judgeAssignment_68, KX3_judgeAssignment_73, KX3_judgeAssignment_89, KX3_judgeAssignment_93, KX3_judgeAssignment_123, lkC, s1C, s2C, dlC, kyC, Nat.beq, Nat.ble, rcd, rno, rsw, Nat.reduceAdd, Nat.reduceBEq, Nat.reduceDiv, List.drop, List.take, List.reverse, List.reverseAux, Int.toNat, Option.toList, List.append, List.cons_append, List.nil_append, zg61, zg62, zg68, zg73, zg331]
        try dsimp only [Qz_judgeAssignment]
        exact fun τ9 h9 => ⟨rfl, JqC.we h9 (Or.inl ⟨by unfold x9T; exact if_neg (fun q9 => hkn q9.1.1), qb181⟩)⟩
theorem wz_judgeAssignment : ∀ (L : Nat) (As : List AvC) (σ : CsC) (w : Option AvC) (τ : CsC), EvF L 61 As σ w τ → Uz_judgeAssignment As σ w τ := by
  intro L
  cases L with
  | zero => exact fun _ _ _ _ h => h.elim
  | succ L => exact fun As σ w τ h y hy => EvF.us (cs := [51, 59, 63, 52, 75, 62, 68]) (pz_judgeAssignment y) rfl (List.forall_mem_cons.2 ⟨wz_variableOf L, List.forall_mem_cons.2 ⟨wz_mayChange L, List.forall_mem_cons.2 ⟨wz_areTaken L, List.forall_mem_cons.2 ⟨wz_isFaulty L, List.forall_mem_cons.2 ⟨wz_fits L, List.forall_mem_cons.2 ⟨wz_isWanted L, List.forall_mem_cons.2 ⟨wz_workType L, fun _ h => absurd h List.not_mem_nil⟩⟩⟩⟩⟩⟩⟩) h hy
