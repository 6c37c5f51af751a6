/-! the class's judge: chains, choices, stores -/
/-- a variable's exp goes into it -/
def JsC (E : Nat → Nat) (σ τ : CsC) (v : Nat) (q : Option TvT) (ct : Int × Int64) : Prop := (q = none ∧ erC E τ) ∨ ((∃ r, q = some r) ∧ fIC τ (E 1) 217 = 0 ∧ XuC [335, 336] σ τ v ∧ (fIC τ v 335).toInt = ct.1 ∧ fLC τ v 336 = ct.2)
theorem JsC.we {E : Nat → Nat} {σ τ υ : CsC} {v : Nat} {q : Option TvT} {ct : Int × Int64} (e : WeC τ υ) (h : JsC E σ τ v q ct) : JsC E σ υ v q ct := by
  rcases h with ⟨h1, h2⟩ | ⟨h1, h2, h3, h4, h5⟩
  · exact Or.inl ⟨h1, by show ¬ fIC υ (E 1) 217 = 0; rw [we_i e]; exact h2⟩
  · refine Or.inr ⟨h1, by rw [we_i e]; exact h2, ?_, by rw [we_i e]; exact h4, by rw [we_l e]; exact h5⟩
    unfold XuC
    rw [we_i e, we_l e, we_r e, we_ei e, we_el e, we_er e, we_c e]
    exact h3
abbrev Pz_judgeChain : ((Int → Int) × (Nat → Nat) × (Nat → Nat) × (Nat → Nat) × (Nat → Nat) × ZS × XrZ × TvT × Nat × TvT × Nat × TvT) → CpC := fun y As σ => match y with
  | (N, E, A, B, V, z, x, t, a, ta, b, tb) => ∃ (p1 : Nat), As = [.inr (.inr (some (E 3))), .inr (.inr (some p1))] ∧ (PjC E σ) ∧ (fIC σ (E 1) 217 = 0) ∧ (p1 < cnC σ) ∧ (XqC σ x p1) ∧ (TwC σ p1 t) ∧ (x.1.1 = 7) ∧ (fRC σ p1 72 = some a) ∧ (a ≠ p1) ∧ (TwC σ a ta) ∧ (¬ ta.1 = -1) ∧ (fRC σ p1 73 = some b) ∧ (b ≠ p1) ∧ (TwC σ b tb) ∧ (¬ tb.1 = -1)
abbrev Qz_judgeChain : ((Int → Int) × (Nat → Nat) × (Nat → Nat) × (Nat → Nat) × (Nat → Nat) × ZS × XrZ × TvT × Nat × TvT × Nat × TvT) → CqC := fun y As σ w τ => match y, As with
  | (N, E, A, B, V, z, x, t, a, ta, b, tb), [_, .inr (.inr (some p1))] => w = none ∧ JqC E [68, 69, 70, 71] σ τ p1 (x7T ta tb t x) (fun r => (fIC τ p1 69).toInt = r.2.2.2)
  | _, _ => True
abbrev Uz_judgeChain : CqC := fun As σ w τ => ∀ y, Pz_judgeChain y As σ → Qz_judgeChain y As σ w τ
set_option maxHeartbeats 4000000 in
theorem pz_judgeChain (y : (Int → Int) × (Nat → Nat) × (Nat → Nat) × (Nat → Nat) × (Nat → Nat) × ZS × XrZ × TvT × Nat × TvT × Nat × TvT) : PbC KX3_judgeChain [(52, TrP, EqC 52), (63, TrP, EqC 63), (68, TrP, EqC 68), (227, TrP, EqC 227), (70, TrP, EqC 70)] [(52, Uz_isFaulty), (63, Uz_areTaken), (68, Uz_workType), (227, Uz_isDivision), (70, Uz_workedChain)] (fun As σ => Pz_judgeChain y As σ ∧ cnC σ ≤ 1000000 ∧ ∃ w τ, uqC quL 69 As σ w τ) (Qz_judgeChain y) := by
  obtain ⟨N, E, A, B, V, z, x, t, a, ta, b, tb⟩ := y
  rintro As σ ⟨⟨p1, rfl, hP, he, hlt, hx, ht, hk, ha, na, wa, fa, hb, nb, wb, fb⟩, hcn, _, _, hQ⟩ K hB hW n_
  have h9a : (fIC σ a 68).toInt = ta.1 := wa.1
  have h9b : (fIC σ b 68).toInt = tb.1 := wb.1
  change K n_ 0 [(0, .inr (.inr (some (E 3)))), (1, .inr (.inr (some p1)))] [] σ
  refine hB _ _ _ _ _ (fun m51 hm51 => ?_)
  dsimp only [ucgo, ucwp, ucsC, uqC, uoC, ctC, rfd, KX3_judgeChain, KX3_judgeChain_0, KX3_judgeChain_17, KX3_judgeChain_30, KX3_judgeChain_31, KX3_judgeChain_60, KX3_judgeChain_69, KX3_judgeChain_73, KX3_judgeChain_77, KX3_judgeChain_88, KX3_judgeChain_95, KX3_judgeChain_105, KX3_judgeChain_114, KX3_judgeChain_118, KX3_judgeChain_119, KX3_judgeChain_129, KX3_judgeChain_145, lkC, s1C, s2C, dlC, kyC, Nat.beq, Nat.ble, rcd, rno, rsw, Nat.reduceAdd, Nat.reduceBEq, Nat.reduceDiv, List.drop, List.take, List.reverse, List.reverseAux, Int.toNat, Option.toList, List.append, List.cons_append, List.nil_append, zg61, zg68, zg69, zg70, zg71, zg72, zg73]
  intro a52 e52 ob52
  cases e52
  intro a53 e53 ob53
  cases e53
  intro w54 τ54 o54 q54
  obtain ⟨r54, rfl, hr54, rfl⟩ := q54 (N, E, A, B, V, z) ⟨_, rfl⟩
  have hr54 : (r54.toInt = 1 ∧ (fIC σ a 68).toInt = -1) ∨ (r54.toInt = 0 ∧ ¬ (fIC σ a 68).toInt = -1) := by
    rcases hr54 with q9 | q9
    · exact Or.inl ⟨q9.1, q9.2 _ ha⟩
    · exact Or.inr ⟨q9.1, fun q8 => q9.2 (fun a9 q7 => by cases ha.symm.trans q7; exact q8)⟩
  try dsimp only [Option.toList, List.cons_append, List.nil_append, s1C, s2C, dlC, kyC, Nat.beq, lkC, rcd, rno, rsw]
  refine ⟨fun h55 => ?_, fun h55 => ?_⟩
  · have g55 := (neI (x := r54) (y := 0) h55 : ¬ (r54 : Int32).toInt = (0 : Int32).toInt)
    have z0_ : (0 : Int32).toInt = 0 := rfl
    refine hB _ _ _ _ _ (fun m56 hm56 => ?_)
    dsimp only [ucgo, ucwp, ucsC, uqC, uoC, ctC, rfd, KX3_judgeChain, KX3_judgeChain_0, KX3_judgeChain_17, KX3_judgeChain_30, KX3_judgeChain_31, KX3_judgeChain_60, KX3_judgeChain_69, KX3_judgeChain_73, KX3_judgeChain_77, KX3_judgeChain_88, KX3_judgeChain_95, KX3_judgeChain_105, KX3_judgeChain_114, KX3_judgeChain_118, KX3_judgeChain_119, KX3_judgeChain_129, KX3_judgeChain_145, lkC, s1C, s2C, dlC, kyC, Nat.beq, Nat.ble, rcd, rno, rsw, Nat.reduceAdd, Nat.reduceBEq, Nat.reduceDiv, List.drop, List.take, List.reverse, List.reverseAux, Int.toNat, Option.toList, List.append, List.cons_append, List.nil_append, zg61, zg68, zg69, zg70, zg71, zg72, zg73]
    try dsimp only [Qz_judgeChain]
    exfalso
    omega
  · have g55 := (eqI (x := r54) (y := 0) h55 : (r54 : Int32).toInt = (0 : Int32).toInt)
    have z0_ : (0 : Int32).toInt = 0 := rfl
    refine hB _ _ _ _ _ (fun m57 hm57 => ?_)
    dsimp only [ucgo, ucwp, ucsC, uqC, uoC, ctC, rfd, KX3_judgeChain, KX3_judgeChain_0, KX3_judgeChain_17, KX3_judgeChain_30, KX3_judgeChain_31, KX3_judgeChain_60, KX3_judgeChain_69, KX3_judgeChain_73, KX3_judgeChain_77, KX3_judgeChain_88, KX3_judgeChain_95, KX3_judgeChain_105, KX3_judgeChain_114, KX3_judgeChain_118, KX3_judgeChain_119, KX3_judgeChain_129, KX3_judgeChain_145, lkC, s1C, s2C, dlC, kyC, Nat.beq, Nat.ble, rcd, rno, rsw, Nat.reduceAdd, Nat.reduceBEq, Nat.reduceDiv, List.drop, List.take, List.reverse, List.reverseAux, Int.toNat, Option.toList, List.append, List.cons_append, List.nil_append, zg61, zg68, zg69, zg70, zg71, zg72, zg73]
    intro a58 e58 ob58
    obtain rfl : a = a58 := Option.some.inj (ha.symm.trans e58)
    have f59 : (fIC σ a 68).toInt = ta.1 := wa.1
    intro w60 τ60 o60 q60
    rw [hb] at q60 o60
    obtain ⟨r60, rfl, qq60⟩ := q60 (N, E, A, B, V, z) ⟨_, _, _, rfl, hP⟩
    have hnf60 : ¬ (fIC σ b 68).toInt = -1 := by rw [wb.1]; exact fb
    rcases qq60 hnf60 with ⟨hr60, hc60, rfl⟩ | ⟨hr60, hc60, qb60⟩
    · rw [hx.1.2.1, wb.1, show ((fIC σ a 68) : Int32).toInt = ta.1 by omega] at hc60
      have hct := hc60
      try dsimp only [Option.toList, List.cons_append, List.nil_append, s1C, s2C, dlC, kyC, Nat.beq, lkC, rcd, rno, rsw]
      refine ⟨fun h61 => ?_, fun h61 => ?_⟩
      · have g61 := (neI (x := r60) (y := 0) h61 : ¬ (r60 : Int32).toInt = (0 : Int32).toInt)
        have z0_ : (0 : Int32).toInt = 0 := rfl
        refine hB _ _ _ _ _ (fun m62 hm62 => ?_)
        dsimp only [ucgo, ucwp, ucsC, uqC, uoC, ctC, rfd, KX3_judgeChain, KX3_judgeChain_0, KX3_judgeChain_17, KX3_judgeChain_30, KX3_judgeChain_31, KX3_judgeChain_60, KX3_judgeChain_69, KX3_judgeChain_73, KX3_judgeChain_77, KX3_judgeChain_88, KX3_judgeChain_95, KX3_judgeChain_105, KX3_judgeChain_114, KX3_judgeChain_118, KX3_judgeChain_119, KX3_judgeChain_129, KX3_judgeChain_145, lkC, s1C, s2C, dlC, kyC, Nat.beq, Nat.ble, rcd, rno, rsw, Nat.reduceAdd, Nat.reduceBEq, Nat.reduceDiv, List.drop, List.take, List.reverse, List.reverseAux, Int.toNat, Option.toList, List.append, List.cons_append, List.nil_append, zg61, zg68, zg69, zg70, zg71, zg72, zg73]
        intro a63 e63 ob63
        cases e63
        have f64 : (fIC σ p1 61).toInt = x.1.2.1 := hx.1.2.1
        intro a65 e65 ob65
        obtain rfl : a = a65 := Option.some.inj (ha.symm.trans e65)
        have f66 : (fIC σ a 68).toInt = ta.1 := wa.1
        intro a67 e67 ob67
        obtain rfl : b = a67 := Option.some.inj (hb.symm.trans e67)
        have f68 : (fIC σ b 68).toInt = tb.1 := wb.1
        intro w69 τ69 o69 q69
        obtain ⟨r69, rfl, hr69, rfl⟩ := q69 (N, E, A, B, V, z) ⟨_, _, _, rfl⟩
        have hwt : r69.toInt = wrT x.1.2.1 ta.1 tb.1 := by rw [hr69, show ((fIC σ p1 61) : Int32).toInt = x.1.2.1 by omega, show ((fIC σ a 68) : Int32).toInt = ta.1 by omega, show ((fIC σ b 68) : Int32).toInt = tb.1 by omega]
        try dsimp only [Option.toList, List.cons_append, List.nil_append, s1C, s2C, dlC, kyC, Nat.beq, lkC, rcd, rno, rsw]
        intro a70 e70 ob70 fk70
        cases e70
        clear fk70 ob70
        generalize hs70 : pIC σ p1 69 r69 = s70
        have hX70 : XuC [68, 69, 70, 71] σ s70 p1 := XuC.pI (M := [68, 69, 70, 71]) (XuC.rf) (by decide) hs70
        have hv70 : r69.toInt = r69.toInt := by omega
        intro a71 e71 ob71
        cases e71
        have f72 : (fIC s70 p1 61).toInt = x.1.2.1 := (congrArg Int32.toInt (hX70.1 p1 61 (Or.inl (by decide))).1).trans hx.1.2.1
        have c73 : (Int32.ofInt 25).toInt = 25 := by decide
        refine ⟨fun h74 => ?_, fun h74 => ?_⟩
        · have g74 := ltI (x := (fIC s70 p1 61)) (y := (Int32.ofInt 25)) h74
          have hty : (if 25 ≤ x.1.2.1 ∧ x.1.2.1 ≤ 30 then 0 else wrT x.1.2.1 ta.1 tb.1) = r69.toInt := (if_neg (by omega)).trans hwt.symm
          refine hB _ _ _ _ _ (fun m75 hm75 => ?_)
          dsimp only [ucgo, ucwp, ucsC, uqC, uoC, ctC, rfd, KX3_judgeChain, KX3_judgeChain_0, KX3_judgeChain_17, KX3_judgeChain_30, KX3_judgeChain_31, KX3_judgeChain_60, KX3_judgeChain_69, KX3_judgeChain_73, KX3_judgeChain_77, KX3_judgeChain_88, KX3_judgeChain_95, KX3_judgeChain_105, KX3_judgeChain_114, KX3_judgeChain_118, KX3_judgeChain_119, KX3_judgeChain_129, KX3_judgeChain_145, lkC, s1C, s2C, dlC, kyC, Nat.beq, Nat.ble, rcd, rno, rsw, Nat.reduceAdd, Nat.reduceBEq, Nat.reduceDiv, List.drop, List.take, List.reverse, List.reverseAux, Int.toNat, Option.toList, List.append, List.cons_append, List.nil_append, zg61, zg68, zg69, zg70, zg71, zg72, zg73]
          intro a76 e76 ob76
          cases e76
          have f77 : (fIC s70 p1 69).toInt = r69.toInt := congrArg Int32.toInt (pI_g hs70) |>.trans hv70
          refine hB _ _ _ _ _ (fun m78 hm78 => ?_)
          dsimp only [ucgo, ucwp, ucsC, uqC, uoC, ctC, rfd, KX3_judgeChain, KX3_judgeChain_0, KX3_judgeChain_17, KX3_judgeChain_30, KX3_judgeChain_31, KX3_judgeChain_60, KX3_judgeChain_69, KX3_judgeChain_73, KX3_judgeChain_77, KX3_judgeChain_88, KX3_judgeChain_95, KX3_judgeChain_105, KX3_judgeChain_114, KX3_judgeChain_118, KX3_judgeChain_119, KX3_judgeChain_129, KX3_judgeChain_145, lkC, s1C, s2C, dlC, kyC, Nat.beq, Nat.ble, rcd, rno, rsw, Nat.reduceAdd, Nat.reduceBEq, Nat.reduceDiv, List.drop, List.take, List.reverse, List.reverseAux, Int.toNat, Option.toList, List.append, List.cons_append, List.nil_append, zg61, zg68, zg69, zg70, zg71, zg72, zg73]
          intro a79 e79 ob79 fk79
          cases e79
          clear fk79 ob79
          generalize hs79 : pIC s70 p1 68 (fIC s70 p1 69) = s79
          have hX79 : XuC [68, 69, 70, 71] σ s79 p1 := XuC.pI (M := [68, 69, 70, 71]) hX70 (by decide) hs79
          have hv79 : (fIC s70 p1 69).toInt = r69.toInt := by omega
          intro a80 e80 ob80
          obtain rfl : a = a80 := Option.some.inj (ha.symm.trans e80)
          have f81 : (fIC s79 a 70).toInt = ta.2.1 := (congrArg Int32.toInt (hX79.1 a 70 (Or.inr na)).1).trans wa.2.1
          refine ⟨fun h82 => ?_, fun h82 => ?_⟩
          · have g82 := (eqI (x := (fIC s79 a 70)) (y := 0) h82 : ((fIC s79 a 70) : Int32).toInt = (0 : Int32).toInt)
            have z0_ : (0 : Int32).toInt = 0 := rfl
            have hcs : csT x.1.2.1 ta tb = 0 := if_neg (fun q9 => by
              obtain ⟨q7, q8, q9⟩ := q9
              omega)
            refine hB _ _ _ _ _ (fun m83 hm83 => ?_)
            dsimp only [ucgo, ucwp, ucsC, uqC, uoC, ctC, rfd, KX3_judgeChain, KX3_judgeChain_0, KX3_judgeChain_17, KX3_judgeChain_30, KX3_judgeChain_31, KX3_judgeChain_60, KX3_judgeChain_69, KX3_judgeChain_73, KX3_judgeChain_77, KX3_judgeChain_88, KX3_judgeChain_95, KX3_judgeChain_105, KX3_judgeChain_114, KX3_judgeChain_118, KX3_judgeChain_119, KX3_judgeChain_129, KX3_judgeChain_145, lkC, s1C, s2C, dlC, kyC, Nat.beq, Nat.ble, rcd, rno, rsw, Nat.reduceAdd, Nat.reduceBEq, Nat.reduceDiv, List.drop, List.take, List.reverse, List.reverseAux, Int.toNat, Option.toList, List.append, List.cons_append, List.nil_append, zg61, zg68, zg69, zg70, zg71, zg72, zg73]
            have c84 : (Int32.ofInt 0).toInt = 0 := by decide
            refine hB _ _ _ _ _ (fun m85 hm85 => ?_)
            dsimp only [ucgo, ucwp, ucsC, uqC, uoC, ctC, rfd, KX3_judgeChain, KX3_judgeChain_0, KX3_judgeChain_17, KX3_judgeChain_30, KX3_judgeChain_31, KX3_judgeChain_60, KX3_judgeChain_69, KX3_judgeChain_73, KX3_judgeChain_77, KX3_judgeChain_88, KX3_judgeChain_95, KX3_judgeChain_105, KX3_judgeChain_114, KX3_judgeChain_118, KX3_judgeChain_119, KX3_judgeChain_129, KX3_judgeChain_145, lkC, s1C, s2C, dlC, kyC, Nat.beq, Nat.ble, rcd, rno, rsw, Nat.reduceAdd, Nat.reduceBEq, Nat.reduceDiv, List.drop, List.take, List.reverse, List.reverseAux, Int.toNat, Option.toList, List.append, List.cons_append, List.nil_append, zg61, zg68, zg69, zg70, zg71, zg72, zg73]
            intro a86 e86 ob86 fk86
            cases e86
            clear fk86 ob86
            generalize hs86 : pIC s79 p1 70 (Int32.ofInt 0) = s86
            have hX86 : XuC [68, 69, 70, 71] σ s86 p1 := XuC.pI (M := [68, 69, 70, 71]) hX79 (by decide) hs86
            have hv86 : (Int32.ofInt 0).toInt = 0 := by omega
            intro a87 e87 ob87
            cases e87
            have f88 : (fIC s86 p1 70).toInt = 0 := congrArg Int32.toInt (pI_g hs86) |>.trans hv86
            refine ⟨fun h89 => ?_, fun h89 => ?_⟩
            · have g89 := (eqI (x := (fIC s86 p1 70)) (y := 0) h89 : ((fIC s86 p1 70) : Int32).toInt = (0 : Int32).toInt)
              have z0_ : (0 : Int32).toInt = 0 := rfl
              refine hB _ _ _ _ _ (fun m90 hm90 => ?_)
              dsimp only [ucgo, ucwp, ucsC, uqC, uoC, ctC, rfd, KX3_judgeChain, KX3_judgeChain_0, KX3_judgeChain_17, KX3_judgeChain_30, KX3_judgeChain_31, KX3_judgeChain_60, KX3_judgeChain_69, KX3_judgeChain_73, KX3_judgeChain_77, KX3_judgeChain_88, KX3_judgeChain_95, KX3_judgeChain_105, KX3_judgeChain_114, KX3_judgeChain_118, KX3_judgeChain_119, KX3_judgeChain_129, KX3_judgeChain_145, lkC, s1C, s2C, dlC, kyC, Nat.beq, Nat.ble, rcd, rno, rsw, Nat.reduceAdd, Nat.reduceBEq, Nat.reduceDiv, List.drop, List.take, List.reverse, List.reverseAux, Int.toNat, Option.toList, List.append, List.cons_append, List.nil_append, zg61, zg68, zg69, zg70, zg71, zg72, zg73]
              try dsimp only [Qz_judgeChain]
              exact fun τ9 h9 => ⟨rfl, JqC.we h9 (Or.inr ⟨((if 25 ≤ x.1.2.1 ∧ x.1.2.1 ≤ 30 then 0 else wrT x.1.2.1 ta.1 tb.1), csT x.1.2.1 ta tb, if csT x.1.2.1 ta tb = 1 then cvT x.1.2.1 (wrT x.1.2.1 ta.1 tb.1) ta.2.2.1 tb.2.2.1 else t.2.2.1, wrT x.1.2.1 ta.1 tb.1), by unfold x7T; rw [if_pos hct], XuC.er (M := [68, 69, 70, 71]) hX86 (by decide) he, hX86, ⟨(congrArg Int32.toInt ((pI_o hs86 (by decide)).trans (pI_g hs79))).trans (by rw [hty]; omega), (congrArg Int32.toInt (pI_g hs86)).trans (by rw [hcs]; omega), ((pI_ol hs86).trans ((pI_ol hs79).trans ((pI_ol hs70).trans rfl))).trans (ht.2.2.trans (by rw [hcs, if_neg (show ¬ (0 : Int) = 1 by decide)]))⟩, (by rw [we_i h9]; exact (congrArg Int32.toInt ((pI_o hs86 (by decide)).trans ((pI_o hs79 (by decide)).trans (pI_g hs70)))).trans hwt)⟩)⟩
            · have g89 := (neI (x := (fIC s86 p1 70)) (y := 0) h89 : ¬ ((fIC s86 p1 70) : Int32).toInt = (0 : Int32).toInt)
              have z0_ : (0 : Int32).toInt = 0 := rfl
              exfalso
              omega
          · have g82 := (neI (x := (fIC s79 a 70)) (y := 0) h82 : ¬ ((fIC s79 a 70) : Int32).toInt = (0 : Int32).toInt)
            have z0_ : (0 : Int32).toInt = 0 := rfl
            refine hB _ _ _ _ _ (fun m91 hm91 => ?_)
            dsimp only [ucgo, ucwp, ucsC, uqC, uoC, ctC, rfd, KX3_judgeChain, KX3_judgeChain_0, KX3_judgeChain_17, KX3_judgeChain_30, KX3_judgeChain_31, KX3_judgeChain_60, KX3_judgeChain_69, KX3_judgeChain_73, KX3_judgeChain_77, KX3_judgeChain_88, KX3_judgeChain_95, KX3_judgeChain_105, KX3_judgeChain_114, KX3_judgeChain_118, KX3_judgeChain_119, KX3_judgeChain_129, KX3_judgeChain_145, lkC, s1C, s2C, dlC, kyC, Nat.beq, Nat.ble, rcd, rno, rsw, Nat.reduceAdd, Nat.reduceBEq, Nat.reduceDiv, List.drop, List.take, List.reverse, List.reverseAux, Int.toNat, Option.toList, List.append, List.cons_append, List.nil_append, zg61, zg68, zg69, zg70, zg71, zg72, zg73]
            intro a92 e92 ob92
            obtain rfl : b = a92 := Option.some.inj (hb.symm.trans e92)
            have f93 : (fIC s79 b 70).toInt = tb.2.1 := (congrArg Int32.toInt (hX79.1 b 70 (Or.inr nb)).1).trans wb.2.1
            refine ⟨fun h94 => ?_, fun h94 => ?_⟩
            · have g94 := (eqI (x := (fIC s79 b 70)) (y := 0) h94 : ((fIC s79 b 70) : Int32).toInt = (0 : Int32).toInt)
              have z0_ : (0 : Int32).toInt = 0 := rfl
              have hcs : csT x.1.2.1 ta tb = 0 := if_neg (fun q9 => by
                obtain ⟨q7, q8, q9⟩ := q9
                omega)
              refine hB _ _ _ _ _ (fun m95 hm95 => ?_)
              dsimp only [ucgo, ucwp, ucsC, uqC, uoC, ctC, rfd, KX3_judgeChain, KX3_judgeChain_0, KX3_judgeChain_17, KX3_judgeChain_30, KX3_judgeChain_31, KX3_judgeChain_60, KX3_judgeChain_69, KX3_judgeChain_73, KX3_judgeChain_77, KX3_judgeChain_88, KX3_judgeChain_95, KX3_judgeChain_105, KX3_judgeChain_114, KX3_judgeChain_118, KX3_judgeChain_119, KX3_judgeChain_129, KX3_judgeChain_145, lkC, s1C, s2C, dlC, kyC, Nat.beq, Nat.ble, rcd, rno, rsw, Nat.reduceAdd, Nat.reduceBEq, Nat.reduceDiv, List.drop, List.take, List.reverse, List.reverseAux, Int.toNat, Option.toList, List.append, List.cons_append, List.nil_append, zg61, zg68, zg69, zg70, zg71, zg72, zg73]
              have c96 : (Int32.ofInt 0).toInt = 0 := by decide
              refine hB _ _ _ _ _ (fun m97 hm97 => ?_)
              dsimp only [ucgo, ucwp, ucsC, uqC, uoC, ctC, rfd, KX3_judgeChain, KX3_judgeChain_0, KX3_judgeChain_17, KX3_judgeChain_30, KX3_judgeChain_31, KX3_judgeChain_60, KX3_judgeChain_69, KX3_judgeChain_73, KX3_judgeChain_77, KX3_judgeChain_88, KX3_judgeChain_95, KX3_judgeChain_105, KX3_judgeChain_114, KX3_judgeChain_118, KX3_judgeChain_119, KX3_judgeChain_129, KX3_judgeChain_145, lkC, s1C, s2C, dlC, kyC, Nat.beq, Nat.ble, rcd, rno, rsw, Nat.reduceAdd, Nat.reduceBEq, Nat.reduceDiv, List.drop, List.take, List.reverse, List.reverseAux, Int.toNat, Option.toList, List.append, List.cons_append, List.nil_append, zg61, zg68, zg69, zg70, zg71, zg72, zg73]
              intro a98 e98 ob98 fk98
              cases e98
              clear fk98 ob98
              generalize hs98 : pIC s79 p1 70 (Int32.ofInt 0) = s98
              have hX98 : XuC [68, 69, 70, 71] σ s98 p1 := XuC.pI (M := [68, 69, 70, 71]) hX79 (by decide) hs98
              have hv98 : (Int32.ofInt 0).toInt = 0 := by omega
              intro a99 e99 ob99
              cases e99
              have f100 : (fIC s98 p1 70).toInt = 0 := congrArg Int32.toInt (pI_g hs98) |>.trans hv98
              refine ⟨fun h101 => ?_, fun h101 => ?_⟩
              · have g101 := (eqI (x := (fIC s98 p1 70)) (y := 0) h101 : ((fIC s98 p1 70) : Int32).toInt = (0 : Int32).toInt)
                have z0_ : (0 : Int32).toInt = 0 := rfl
                refine hB _ _ _ _ _ (fun m102 hm102 => ?_)
                dsimp only [ucgo, ucwp, ucsC, uqC, uoC, ctC, rfd, KX3_judgeChain, KX3_judgeChain_0, KX3_judgeChain_17, KX3_judgeChain_30, KX3_judgeChain_31, KX3_judgeChain_60, KX3_judgeChain_69, KX3_judgeChain_73, KX3_judgeChain_77, KX3_judgeChain_88, KX3_judgeChain_95, KX3_judgeChain_105, KX3_judgeChain_114, KX3_judgeChain_118, KX3_judgeChain_119, KX3_judgeChain_129, KX3_judgeChain_145, lkC, s1C, s2C, dlC, kyC, Nat.beq, Nat.ble, rcd, rno, rsw, Nat.reduceAdd, Nat.reduceBEq, Nat.reduceDiv, List.drop, List.take, List.reverse, List.reverseAux, Int.toNat, Option.toList, List.append, List.cons_append, List.nil_append, zg61, zg68, zg69, zg70, zg71, zg72, zg73]
                try dsimp only [Qz_judgeChain]
                exact fun τ9 h9 => ⟨rfl, JqC.we h9 (Or.inr ⟨((if 25 ≤ x.1.2.1 ∧ x.1.2.1 ≤ 30 then 0 else wrT x.1.2.1 ta.1 tb.1), csT x.1.2.1 ta tb, if csT x.1.2.1 ta tb = 1 then cvT x.1.2.1 (wrT x.1.2.1 ta.1 tb.1) ta.2.2.1 tb.2.2.1 else t.2.2.1, wrT x.1.2.1 ta.1 tb.1), by unfold x7T; rw [if_pos hct], XuC.er (M := [68, 69, 70, 71]) hX98 (by decide) he, hX98, ⟨(congrArg Int32.toInt ((pI_o hs98 (by decide)).trans (pI_g hs79))).trans (by rw [hty]; omega), (congrArg Int32.toInt (pI_g hs98)).trans (by rw [hcs]; omega), ((pI_ol hs98).trans ((pI_ol hs79).trans ((pI_ol hs70).trans rfl))).trans (ht.2.2.trans (by rw [hcs, if_neg (show ¬ (0 : Int) = 1 by decide)]))⟩, (by rw [we_i h9]; exact (congrArg Int32.toInt ((pI_o hs98 (by decide)).trans ((pI_o hs79 (by decide)).trans (pI_g hs70)))).trans hwt)⟩)⟩
              · have g101 := (neI (x := (fIC s98 p1 70)) (y := 0) h101 : ¬ ((fIC s98 p1 70) : Int32).toInt = (0 : Int32).toInt)
                have z0_ : (0 : Int32).toInt = 0 := rfl
                exfalso
                omega
            · have g94 := (neI (x := (fIC s79 b 70)) (y := 0) h94 : ¬ ((fIC s79 b 70) : Int32).toInt = (0 : Int32).toInt)
              have z0_ : (0 : Int32).toInt = 0 := rfl
              refine hB _ _ _ _ _ (fun m103 hm103 => ?_)
              dsimp only [ucgo, ucwp, ucsC, uqC, uoC, ctC, rfd, KX3_judgeChain, KX3_judgeChain_0, KX3_judgeChain_17, KX3_judgeChain_30, KX3_judgeChain_31, KX3_judgeChain_60, KX3_judgeChain_69, KX3_judgeChain_73, KX3_judgeChain_77, KX3_judgeChain_88, KX3_judgeChain_95, KX3_judgeChain_105, KX3_judgeChain_114, KX3_judgeChain_118, KX3_judgeChain_119, KX3_judgeChain_129, KX3_judgeChain_145, lkC, s1C, s2C, dlC, kyC, Nat.beq, Nat.ble, rcd, rno, rsw, Nat.reduceAdd, Nat.reduceBEq, Nat.reduceDiv, List.drop, List.take, List.reverse, List.reverseAux, Int.toNat, Option.toList, List.append, List.cons_append, List.nil_append, zg61, zg68, zg69, zg70, zg71, zg72, zg73]
              intro a104 e104 ob104
              cases e104
              have f105 : (fIC s79 p1 61).toInt = x.1.2.1 := (congrArg Int32.toInt (hX79.1 p1 61 (Or.inl (by decide))).1).trans hx.1.2.1
              intro w106 τ106 o106 q106
              obtain ⟨r106, rfl, hr106, rfl⟩ := q106 (N, E, A, B, V, z) ⟨_, rfl⟩
              try dsimp only [Option.toList, List.cons_append, List.nil_append, s1C, s2C, dlC, kyC, Nat.beq, lkC, rcd, rno, rsw]
              refine ⟨fun h107 => ?_, fun h107 => ?_⟩
              · have g107 := (eqI (x := r106) (y := 0) h107 : (r106 : Int32).toInt = (0 : Int32).toInt)
                have z0_ : (0 : Int32).toInt = 0 := rfl
                have hcs : csT x.1.2.1 ta tb = 1 := if_pos ⟨by omega, by omega, fun q9 => by omega⟩
                refine hB _ _ _ _ _ (fun m108 hm108 => ?_)
                dsimp only [ucgo, ucwp, ucsC, uqC, uoC, ctC, rfd, KX3_judgeChain, KX3_judgeChain_0, KX3_judgeChain_17, KX3_judgeChain_30, KX3_judgeChain_31, KX3_judgeChain_60, KX3_judgeChain_69, KX3_judgeChain_73, KX3_judgeChain_77, KX3_judgeChain_88, KX3_judgeChain_95, KX3_judgeChain_105, KX3_judgeChain_114, KX3_judgeChain_118, KX3_judgeChain_119, KX3_judgeChain_129, KX3_judgeChain_145, lkC, s1C, s2C, dlC, kyC, Nat.beq, Nat.ble, rcd, rno, rsw, Nat.reduceAdd, Nat.reduceBEq, Nat.reduceDiv, List.drop, List.take, List.reverse, List.reverseAux, Int.toNat, Option.toList, List.append, List.cons_append, List.nil_append, zg61, zg68, zg69, zg70, zg71, zg72, zg73]
                have c109 : (Int32.ofInt 1).toInt = 1 := by decide
                refine hB _ _ _ _ _ (fun m110 hm110 => ?_)
                dsimp only [ucgo, ucwp, ucsC, uqC, uoC, ctC, rfd, KX3_judgeChain, KX3_judgeChain_0, KX3_judgeChain_17, KX3_judgeChain_30, KX3_judgeChain_31, KX3_judgeChain_60, KX3_judgeChain_69, KX3_judgeChain_73, KX3_judgeChain_77, KX3_judgeChain_88, KX3_judgeChain_95, KX3_judgeChain_105, KX3_judgeChain_114, KX3_judgeChain_118, KX3_judgeChain_119, KX3_judgeChain_129, KX3_judgeChain_145, lkC, s1C, s2C, dlC, kyC, Nat.beq, Nat.ble, rcd, rno, rsw, Nat.reduceAdd, Nat.reduceBEq, Nat.reduceDiv, List.drop, List.take, List.reverse, List.reverseAux, Int.toNat, Option.toList, List.append, List.cons_append, List.nil_append, zg61, zg68, zg69, zg70, zg71, zg72, zg73]
                intro a111 e111 ob111 fk111
                cases e111
                clear fk111 ob111
                generalize hs111 : pIC s79 p1 70 (Int32.ofInt 1) = s111
                have hX111 : XuC [68, 69, 70, 71] σ s111 p1 := XuC.pI (M := [68, 69, 70, 71]) hX79 (by decide) hs111
                have hv111 : (Int32.ofInt 1).toInt = 1 := by omega
                intro a112 e112 ob112
                cases e112
                have f113 : (fIC s111 p1 70).toInt = 1 := congrArg Int32.toInt (pI_g hs111) |>.trans hv111
                refine ⟨fun h114 => ?_, fun h114 => ?_⟩
                · have g114 := (eqI (x := (fIC s111 p1 70)) (y := 0) h114 : ((fIC s111 p1 70) : Int32).toInt = (0 : Int32).toInt)
                  have z0_ : (0 : Int32).toInt = 0 := rfl
                  exfalso
                  omega
                · have g114 := (neI (x := (fIC s111 p1 70)) (y := 0) h114 : ¬ ((fIC s111 p1 70) : Int32).toInt = (0 : Int32).toInt)
                  have z0_ : (0 : Int32).toInt = 0 := rfl
                  refine hB _ _ _ _ _ (fun m115 hm115 => ?_)
                  dsimp only [ucgo, ucwp, ucsC, uqC, uoC, ctC, rfd, KX3_judgeChain, KX3_judgeChain_0, KX3_judgeChain_17, KX3_judgeChain_30, KX3_judgeChain_31, KX3_judgeChain_60, KX3_judgeChain_69, KX3_judgeChain_73, KX3_judgeChain_77, KX3_judgeChain_88, KX3_judgeChain_95, KX3_judgeChain_105, KX3_judgeChain_114, KX3_judgeChain_118, KX3_judgeChain_119, KX3_judgeChain_129, KX3_judgeChain_145, lkC, s1C, s2C, dlC, kyC, Nat.beq, Nat.ble, rcd, rno, rsw, Nat.reduceAdd, Nat.reduceBEq, Nat.reduceDiv, List.drop, List.take, List.reverse, List.reverseAux, Int.toNat, Option.toList, List.append, List.cons_append, List.nil_append, zg61, zg68, zg69, zg70, zg71, zg72, zg73]
                  intro a116 e116 ob116
                  obtain rfl : a = a116 := Option.some.inj (ha.symm.trans e116)
                  have fl117 : (fLC s111 a 71) = fLC σ a 71 := (hX111.1 a 71 (Or.inr na)).2.1
                  intro a118 e118 ob118
                  obtain rfl : b = a118 := Option.some.inj (hb.symm.trans e118)
                  have fl119 : (fLC s111 b 71) = fLC σ b 71 := (hX111.1 b 71 (Or.inr nb)).2.1
                  intro w120 τ120 o120 q120
                  obtain ⟨r120, rfl, hr120, rfl⟩ := q120 (N, E, A, B, V, z) ⟨_, _, _, rfl⟩
                  have hwv : r120 = cvT x.1.2.1 (wrT x.1.2.1 ta.1 tb.1) ta.2.2.1 tb.2.2.1 := by rw [hr120, show (fIC s111 p1 61).toInt = x.1.2.1 from ((congrArg Int32.toInt (hX111.1 p1 61 (Or.inl (by decide))).1).trans hx.1.2.1), show (fIC s111 p1 69).toInt = wrT x.1.2.1 ta.1 tb.1 from (congrArg Int32.toInt ((pI_o hs111 (by decide)).trans ((pI_o hs79 (by decide)).trans (pI_g hs70)))).trans hwt, show (fLC s111 a 71) = ta.2.2.1 from (fl117.trans wa.2.2), show (fLC s111 b 71) = tb.2.2.1 from (fl119.trans wb.2.2)]
                  try dsimp only [Option.toList, List.cons_append, List.nil_append, s1C, s2C, dlC, kyC, Nat.beq, lkC, rcd, rno, rsw]
                  intro a121 e121 ob121 fk121
                  cases e121
                  clear fk121 ob121
                  generalize hs121 : pLC s111 p1 71 r120 = s121
                  have hX121 : XuC [68, 69, 70, 71] σ s121 p1 := XuC.pL (M := [68, 69, 70, 71]) hX111 (by decide) hs121
                  refine hB _ _ _ _ _ (fun m122 hm122 => ?_)
                  dsimp only [ucgo, ucwp, ucsC, uqC, uoC, ctC, rfd, KX3_judgeChain, KX3_judgeChain_0, KX3_judgeChain_17, KX3_judgeChain_30, KX3_judgeChain_31, KX3_judgeChain_60, KX3_judgeChain_69, KX3_judgeChain_73, KX3_judgeChain_77, KX3_judgeChain_88, KX3_judgeChain_95, KX3_judgeChain_105, KX3_judgeChain_114, KX3_judgeChain_118, KX3_judgeChain_119, KX3_judgeChain_129, KX3_judgeChain_145, lkC, s1C, s2C, dlC, kyC, Nat.beq, Nat.ble, rcd, rno, rsw, Nat.reduceAdd, Nat.reduceBEq, Nat.reduceDiv, List.drop, List.take, List.reverse, List.reverseAux, Int.toNat, Option.toList, List.append, List.cons_append, List.nil_append, zg61, zg68, zg69, zg70, zg71, zg72, zg73]
                  try dsimp only [Qz_judgeChain]
                  exact fun τ9 h9 => ⟨rfl, JqC.we h9 (Or.inr ⟨((if 25 ≤ x.1.2.1 ∧ x.1.2.1 ≤ 30 then 0 else wrT x.1.2.1 ta.1 tb.1), csT x.1.2.1 ta tb, if csT x.1.2.1 ta tb = 1 then cvT x.1.2.1 (wrT x.1.2.1 ta.1 tb.1) ta.2.2.1 tb.2.2.1 else t.2.2.1, wrT x.1.2.1 ta.1 tb.1), by unfold x7T; rw [if_pos hct], XuC.er (M := [68, 69, 70, 71]) hX121 (by decide) he, hX121, ⟨(congrArg Int32.toInt ((pL_oi hs121).trans ((pI_o hs111 (by decide)).trans (pI_g hs79)))).trans (by rw [hty]; omega), (congrArg Int32.toInt ((pL_oi hs121).trans (pI_g hs111))).trans (by rw [hcs]; omega), (pL_g hs121).trans (by rw [hcs, if_pos rfl]; exact hwv)⟩, (by rw [we_i h9]; exact (congrArg Int32.toInt ((pL_oi hs121).trans ((pI_o hs111 (by decide)).trans ((pI_o hs79 (by decide)).trans (pI_g hs70))))).trans hwt)⟩)⟩
              · have g107 := (neI (x := r106) (y := 0) h107 : ¬ (r106 : Int32).toInt = (0 : Int32).toInt)
                have z0_ : (0 : Int32).toInt = 0 := rfl
                refine hB _ _ _ _ _ (fun m123 hm123 => ?_)
                dsimp only [ucgo, ucwp, ucsC, uqC, uoC, ctC, rfd, KX3_judgeChain, KX3_judgeChain_0, KX3_judgeChain_17, KX3_judgeChain_30, KX3_judgeChain_31, KX3_judgeChain_60, KX3_judgeChain_69, KX3_judgeChain_73, KX3_judgeChain_77, KX3_judgeChain_88, KX3_judgeChain_95, KX3_judgeChain_105, KX3_judgeChain_114, KX3_judgeChain_118, KX3_judgeChain_119, KX3_judgeChain_129, KX3_judgeChain_145, lkC, s1C, s2C, dlC, kyC, Nat.beq, Nat.ble, rcd, rno, rsw, Nat.reduceAdd, Nat.reduceBEq, Nat.reduceDiv, List.drop, List.take, List.reverse, List.reverseAux, Int.toNat, Option.toList, List.append, List.cons_append, List.nil_append, zg61, zg68, zg69, zg70, zg71, zg72, zg73]
                intro a124 e124 ob124
                obtain rfl : b = a124 := Option.some.inj (hb.symm.trans e124)
                have fl125 : (fLC s79 b 71) = fLC σ b 71 := (hX79.1 b 71 (Or.inr nb)).2.1
                have lc126 : (lg_cmp (fLC s79 b 71) (Int64.ofNat ((0 : Fin 2) : Nat))).toInt = 0 → (fLC s79 b 71) = (Int64.ofNat ((0 : Fin 2) : Nat)) := lcmpC
                have ld126 : (fLC s79 b 71) = (Int64.ofNat ((0 : Fin 2) : Nat)) → (lg_cmp (fLC s79 b 71) (Int64.ofNat ((0 : Fin 2) : Nat))).toInt = 0 := fun e => by rw [e]; exact lcmp0
                refine ⟨fun h127 => ?_, fun h127 => ?_⟩
                · have g127 := (eqI (x := (lg_cmp (fLC s79 b 71) (Int64.ofNat ((0 : Fin 2) : Nat)))) (y := 0) h127 : ((lg_cmp (fLC s79 b 71) (Int64.ofNat ((0 : Fin 2) : Nat))) : Int32).toInt = (0 : Int32).toInt)
                  have z0_ : (0 : Int32).toInt = 0 := rfl
                  have hcs : csT x.1.2.1 ta tb = 0 := if_neg (fun q9 => by
                    obtain ⟨q7, q8, q9⟩ := q9
                    exact q9 ⟨by omega, ((fl125.trans wb.2.2).symm.trans (lc126 (by omega)))⟩)
                  refine hB _ _ _ _ _ (fun m128 hm128 => ?_)
                  dsimp only [ucgo, ucwp, ucsC, uqC, uoC, ctC, rfd, KX3_judgeChain, KX3_judgeChain_0, KX3_judgeChain_17, KX3_judgeChain_30, KX3_judgeChain_31, KX3_judgeChain_60, KX3_judgeChain_69, KX3_judgeChain_73, KX3_judgeChain_77, KX3_judgeChain_88, KX3_judgeChain_95, KX3_judgeChain_105, KX3_judgeChain_114, KX3_judgeChain_118, KX3_judgeChain_119, KX3_judgeChain_129, KX3_judgeChain_145, lkC, s1C, s2C, dlC, kyC, Nat.beq, Nat.ble, rcd, rno, rsw, Nat.reduceAdd, Nat.reduceBEq, Nat.reduceDiv, List.drop, List.take, List.reverse, List.reverseAux, Int.toNat, Option.toList, List.append, List.cons_append, List.nil_append, zg61, zg68, zg69, zg70, zg71, zg72, zg73]
                  have c129 : (Int32.ofInt 0).toInt = 0 := by decide
                  refine hB _ _ _ _ _ (fun m130 hm130 => ?_)
                  dsimp only [ucgo, ucwp, ucsC, uqC, uoC, ctC, rfd, KX3_judgeChain, KX3_judgeChain_0, KX3_judgeChain_17, KX3_judgeChain_30, KX3_judgeChain_31, KX3_judgeChain_60, KX3_judgeChain_69, KX3_judgeChain_73, KX3_judgeChain_77, KX3_judgeChain_88, KX3_judgeChain_95, KX3_judgeChain_105, KX3_judgeChain_114, KX3_judgeChain_118, KX3_judgeChain_119, KX3_judgeChain_129, KX3_judgeChain_145, lkC, s1C, s2C, dlC, kyC, Nat.beq, Nat.ble, rcd, rno, rsw, Nat.reduceAdd, Nat.reduceBEq, Nat.reduceDiv, List.drop, List.take, List.reverse, List.reverseAux, Int.toNat, Option.toList, List.append, List.cons_append, List.nil_append, zg61, zg68, zg69, zg70, zg71, zg72, zg73]
                  intro a131 e131 ob131 fk131
                  cases e131
                  clear fk131 ob131
                  generalize hs131 : pIC s79 p1 70 (Int32.ofInt 0) = s131
                  have hX131 : XuC [68, 69, 70, 71] σ s131 p1 := XuC.pI (M := [68, 69, 70, 71]) hX79 (by decide) hs131
                  have hv131 : (Int32.ofInt 0).toInt = 0 := by omega
                  intro a132 e132 ob132
                  cases e132
                  have f133 : (fIC s131 p1 70).toInt = 0 := congrArg Int32.toInt (pI_g hs131) |>.trans hv131
                  refine ⟨fun h134 => ?_, fun h134 => ?_⟩
                  · have g134 := (eqI (x := (fIC s131 p1 70)) (y := 0) h134 : ((fIC s131 p1 70) : Int32).toInt = (0 : Int32).toInt)
                    have z0_ : (0 : Int32).toInt = 0 := rfl
                    refine hB _ _ _ _ _ (fun m135 hm135 => ?_)
                    dsimp only [ucgo, ucwp, ucsC, uqC, uoC, ctC, rfd, KX3_judgeChain, KX3_judgeChain_0, KX3_judgeChain_17, KX3_judgeChain_30, KX3_judgeChain_31, KX3_judgeChain_60, KX3_judgeChain_69, KX3_judgeChain_73, KX3_judgeChain_77, KX3_judgeChain_88, KX3_judgeChain_95, KX3_judgeChain_105, KX3_judgeChain_114, KX3_judgeChain_118, KX3_judgeChain_119, KX3_judgeChain_129, KX3_judgeChain_145, lkC, s1C, s2C, dlC, kyC, Nat.beq, Nat.ble, rcd, rno, rsw, Nat.reduceAdd, Nat.reduceBEq, Nat.reduceDiv, List.drop, List.take, List.reverse, List.reverseAux, Int.toNat, Option.toList, List.append, List.cons_append, List.nil_append, zg61, zg68, zg69, zg70, zg71, zg72, zg73]
                    try dsimp only [Qz_judgeChain]
                    exact fun τ9 h9 => ⟨rfl, JqC.we h9 (Or.inr ⟨((if 25 ≤ x.1.2.1 ∧ x.1.2.1 ≤ 30 then 0 else wrT x.1.2.1 ta.1 tb.1), csT x.1.2.1 ta tb, if csT x.1.2.1 ta tb = 1 then cvT x.1.2.1 (wrT x.1.2.1 ta.1 tb.1) ta.2.2.1 tb.2.2.1 else t.2.2.1, wrT x.1.2.1 ta.1 tb.1), by unfold x7T; rw [if_pos hct], XuC.er (M := [68, 69, 70, 71]) hX131 (by decide) he, hX131, ⟨(congrArg Int32.toInt ((pI_o hs131 (by decide)).trans (pI_g hs79))).trans (by rw [hty]; omega), (congrArg Int32.toInt (pI_g hs131)).trans (by rw [hcs]; omega), ((pI_ol hs131).trans ((pI_ol hs79).trans ((pI_ol hs70).trans rfl))).trans (ht.2.2.trans (by rw [hcs, if_neg (show ¬ (0 : Int) = 1 by decide)]))⟩, (by rw [we_i h9]; exact (congrArg Int32.toInt ((pI_o hs131 (by decide)).trans ((pI_o hs79 (by decide)).trans (pI_g hs70)))).trans hwt)⟩)⟩
                  · have g134 := (neI (x := (fIC s131 p1 70)) (y := 0) h134 : ¬ ((fIC s131 p1 70) : Int32).toInt = (0 : Int32).toInt)
                    have z0_ : (0 : Int32).toInt = 0 := rfl
                    exfalso
                    omega
                · have g127 := (neI (x := (lg_cmp (fLC s79 b 71) (Int64.ofNat ((0 : Fin 2) : Nat)))) (y := 0) h127 : ¬ ((lg_cmp (fLC s79 b 71) (Int64.ofNat ((0 : Fin 2) : Nat))) : Int32).toInt = (0 : Int32).toInt)
                  have z0_ : (0 : Int32).toInt = 0 := rfl
                  have hcs : csT x.1.2.1 ta tb = 1 := if_pos ⟨by omega, by omega, fun q9 => absurd (ld126 ((fl125.trans wb.2.2).trans q9.2)) (by omega)⟩
                  refine hB _ _ _ _ _ (fun m136 hm136 => ?_)
                  dsimp only [ucgo, ucwp, ucsC, uqC, uoC, ctC, rfd, KX3_judgeChain, KX3_judgeChain_0, KX3_judgeChain_17, KX3_judgeChain_30, KX3_judgeChain_31, KX3_judgeChain_60, KX3_judgeChain_69, KX3_judgeChain_73, KX3_judgeChain_77, KX3_judgeChain_88, KX3_judgeChain_95, KX3_judgeChain_105, KX3_judgeChain_114, KX3_judgeChain_118, KX3_judgeChain_119, KX3_judgeChain_129, KX3_judgeChain_145, lkC, s1C, s2C, dlC, kyC, Nat.beq, Nat.ble, rcd, rno, rsw, Nat.reduceAdd, Nat.reduceBEq, Nat.reduceDiv, List.drop, List.take, List.reverse, List.reverseAux, Int.toNat, Option.toList, List.append, List.cons_append, List.nil_append, zg61, zg68, zg69, zg70, zg71, zg72, zg73]
                  have c137 : (Int32.ofInt 1).toInt = 1 := by decide
                  refine hB _ _ _ _ _ (fun m138 hm138 => ?_)
                  dsimp only [ucgo, ucwp, ucsC, uqC, uoC, ctC, rfd, KX3_judgeChain, KX3_judgeChain_0, KX3_judgeChain_17, KX3_judgeChain_30, KX3_judgeChain_31, KX3_judgeChain_60, KX3_judgeChain_69, KX3_judgeChain_73, KX3_judgeChain_77, KX3_judgeChain_88, KX3_judgeChain_95, KX3_judgeChain_105, KX3_judgeChain_114, KX3_judgeChain_118, KX3_judgeChain_119, KX3_judgeChain_129, KX3_judgeChain_145, lkC, s1C, s2C, dlC, kyC, Nat.beq, Nat.ble, rcd, rno, rsw, Nat.reduceAdd, Nat.reduceBEq, Nat.reduceDiv, List.drop, List.take, List.reverse, List.reverseAux, Int.toNat, Option.toList, List.append, List.cons_append, List.nil_append, zg61, zg68, zg69, zg70, zg71, zg72, zg73]
                  intro a139 e139 ob139 fk139
                  cases e139
                  clear fk139 ob139
                  generalize hs139 : pIC s79 p1 70 (Int32.ofInt 1) = s139
                  have hX139 : XuC [68, 69, 70, 71] σ s139 p1 := XuC.pI (M := [68, 69, 70, 71]) hX79 (by decide) hs139
                  have hv139 : (Int32.ofInt 1).toInt = 1 := by omega
                  intro a140 e140 ob140
                  cases e140
                  have f141 : (fIC s139 p1 70).toInt = 1 := congrArg Int32.toInt (pI_g hs139) |>.trans hv139
                  refine ⟨fun h142 => ?_, fun h142 => ?_⟩
                  · have g142 := (eqI (x := (fIC s139 p1 70)) (y := 0) h142 : ((fIC s139 p1 70) : Int32).toInt = (0 : Int32).toInt)
                    have z0_ : (0 : Int32).toInt = 0 := rfl
                    exfalso
                    omega
                  · have g142 := (neI (x := (fIC s139 p1 70)) (y := 0) h142 : ¬ ((fIC s139 p1 70) : Int32).toInt = (0 : Int32).toInt)
                    have z0_ : (0 : Int32).toInt = 0 := rfl
                    refine hB _ _ _ _ _ (fun m143 hm143 => ?_)
                    dsimp only [ucgo, ucwp, ucsC, uqC, uoC, ctC, rfd, KX3_judgeChain, KX3_judgeChain_0, KX3_judgeChain_17, KX3_judgeChain_30, KX3_judgeChain_31, KX3_judgeChain_60, KX3_judgeChain_69, KX3_judgeChain_73, KX3_judgeChain_77, KX3_judgeChain_88, KX3_judgeChain_95, KX3_judgeChain_105, KX3_judgeChain_114, KX3_judgeChain_118, KX3_judgeChain_119, KX3_judgeChain_129, KX3_judgeChain_145, lkC, s1C, s2C, dlC, kyC, Nat.beq, Nat.ble, rcd, rno, rsw, Nat.reduceAdd, Nat.reduceBEq, Nat.reduceDiv, List.drop, List.take, List.reverse, List.reverseAux, Int.toNat, Option.toList, List.append, List.cons_append, List.nil_append, zg61, zg68, zg69, zg70, zg71, zg72, zg73]
                    intro a144 e144 ob144
                    obtain rfl : a = a144 := Option.some.inj (ha.symm.trans e144)
                    have fl145 : (fLC s139 a 71) = fLC σ a 71 := (hX139.1 a 71 (Or.inr na)).2.1
                    intro a146 e146 ob146
                    obtain rfl : b = a146 := Option.some.inj (hb.symm.trans e146)
                    have fl147 : (fLC s139 b 71) = fLC σ b 71 := (hX139.1 b 71 (Or.inr nb)).2.1
                    intro w148 τ148 o148 q148
                    obtain ⟨r148, rfl, hr148, rfl⟩ := q148 (N, E, A, B, V, z) ⟨_, _, _, rfl⟩
                    have hwv : r148 = cvT x.1.2.1 (wrT x.1.2.1 ta.1 tb.1) ta.2.2.1 tb.2.2.1 := by rw [hr148, show (fIC s139 p1 61).toInt = x.1.2.1 from ((congrArg Int32.toInt (hX139.1 p1 61 (Or.inl (by decide))).1).trans hx.1.2.1), show (fIC s139 p1 69).toInt = wrT x.1.2.1 ta.1 tb.1 from (congrArg Int32.toInt ((pI_o hs139 (by decide)).trans ((pI_o hs79 (by decide)).trans (pI_g hs70)))).trans hwt, show (fLC s139 a 71) = ta.2.2.1 from (fl145.trans wa.2.2), show (fLC s139 b 71) = tb.2.2.1 from (fl147.trans wb.2.2)]
                    try dsimp only [Option.toList, List.cons_append, List.nil_append, s1C, s2C, dlC, kyC, Nat.beq, lkC, rcd, rno, rsw]
                    intro a149 e149 ob149 fk149
                    cases e149
                    clear fk149 ob149
                    generalize hs149 : pLC s139 p1 71 r148 = s149
                    have hX149 : XuC [68, 69, 70, 71] σ s149 p1 := XuC.pL (M := [68, 69, 70, 71]) hX139 (by decide) hs149
                    refine hB _ _ _ _ _ (fun m150 hm150 => ?_)
                    dsimp only [ucgo, ucwp, ucsC, uqC, uoC, ctC, rfd, KX3_judgeChain, KX3_judgeChain_0, KX3_judgeChain_17, KX3_judgeChain_30, KX3_judgeChain_31, KX3_judgeChain_60, KX3_judgeChain_69, KX3_judgeChain_73, KX3_judgeChain_77, KX3_judgeChain_88, KX3_judgeChain_95, KX3_judgeChain_105, KX3_judgeChain_114, KX3_judgeChain_118, KX3_judgeChain_119, KX3_judgeChain_129, KX3_judgeChain_145, lkC, s1C, s2C, dlC, kyC, Nat.beq, Nat.ble, rcd, rno, rsw, Nat.reduceAdd, Nat.reduceBEq, Nat.reduceDiv, List.drop, List.take, List.reverse, List.reverseAux, Int.toNat, Option.toList, List.append, List.cons_append, List.nil_append, zg61, zg68, zg69, zg70, zg71, zg72, zg73]
                    try dsimp only [Qz_judgeChain]
                    exact fun τ9 h9 => ⟨rfl, JqC.we h9 (Or.inr ⟨((if 25 ≤ x.1.2.1 ∧ x.1.2.1 ≤ 30 then 0 else wrT x.1.2.1 ta.1 tb.1), csT x.1.2.1 ta tb, if csT x.1.2.1 ta tb = 1 then cvT x.1.2.1 (wrT x.1.2.1 ta.1 tb.1) ta.2.2.1 tb.2.2.1 else t.2.2.1, wrT x.1.2.1 ta.1 tb.1), by unfold x7T; rw [if_pos hct], XuC.er (M := [68, 69, 70, 71]) hX149 (by decide) he, hX149, ⟨(congrArg Int32.toInt ((pL_oi hs149).trans ((pI_o hs139 (by decide)).trans (pI_g hs79)))).trans (by rw [hty]; omega), (congrArg Int32.toInt ((pL_oi hs149).trans (pI_g hs139))).trans (by rw [hcs]; omega), (pL_g hs149).trans (by rw [hcs, if_pos rfl]; exact hwv)⟩, (by rw [we_i h9]; exact (congrArg Int32.toInt ((pL_oi hs149).trans ((pI_o hs139 (by decide)).trans ((pI_o hs79 (by decide)).trans (pI_g hs70))))).trans hwt)⟩)⟩
        · have g74 := nltI (x := (fIC s70 p1 61)) (y := (Int32.ofInt 25)) h74
          refine hB _ _ _ _ _ (fun m151 hm151 => ?_)
          dsimp only [ucgo, ucwp, ucsC, uqC, uoC, ctC, rfd, KX3_judgeChain, KX3_judgeChain_0, KX3_judgeChain_17, KX3_judgeChain_30, KX3_judgeChain_31, KX3_judgeChain_60, KX3_judgeChain_69, KX3_judgeChain_73, KX3_judgeChain_77, KX3_judgeChain_88, KX3_judgeChain_95, KX3_judgeChain_105, KX3_judgeChain_114, KX3_judgeChain_118, KX3_judgeChain_119, KX3_judgeChain_129, KX3_judgeChain_145, lkC, s1C, s2C, dlC, kyC, Nat.beq, Nat.ble, rcd, rno, rsw, Nat.reduceAdd, Nat.reduceBEq, Nat.reduceDiv, List.drop, List.take, List.reverse, List.reverseAux, Int.toNat, Option.toList, List.append, List.cons_append, List.nil_append, zg61, zg68, zg69, zg70, zg71, zg72, zg73]
          intro a152 e152 ob152
          cases e152
          have f153 : (fIC s70 p1 61).toInt = x.1.2.1 := (congrArg Int32.toInt (hX70.1 p1 61 (Or.inl (by decide))).1).trans hx.1.2.1
          have c154 : (Int32.ofInt 30).toInt = 30 := by decide
          refine ⟨fun h155 => ?_, fun h155 => ?_⟩
          · have g155 := ltI (x := (Int32.ofInt 30)) (y := (fIC s70 p1 61)) h155
            have hty : (if 25 ≤ x.1.2.1 ∧ x.1.2.1 ≤ 30 then 0 else wrT x.1.2.1 ta.1 tb.1) = r69.toInt := (if_neg (by omega)).trans hwt.symm
            refine hB _ _ _ _ _ (fun m156 hm156 => ?_)
            dsimp only [ucgo, ucwp, ucsC, uqC, uoC, ctC, rfd, KX3_judgeChain, KX3_judgeChain_0, KX3_judgeChain_17, KX3_judgeChain_30, KX3_judgeChain_31, KX3_judgeChain_60, KX3_judgeChain_69, KX3_judgeChain_73, KX3_judgeChain_77, KX3_judgeChain_88, KX3_judgeChain_95, KX3_judgeChain_105, KX3_judgeChain_114, KX3_judgeChain_118, KX3_judgeChain_119, KX3_judgeChain_129, KX3_judgeChain_145, lkC, s1C, s2C, dlC, kyC, Nat.beq, Nat.ble, rcd, rno, rsw, Nat.reduceAdd, Nat.reduceBEq, Nat.reduceDiv, List.drop, List.take, List.reverse, List.reverseAux, Int.toNat, Option.toList, List.append, List.cons_append, List.nil_append, zg61, zg68, zg69, zg70, zg71, zg72, zg73]
            intro a157 e157 ob157
            cases e157
            have f158 : (fIC s70 p1 69).toInt = r69.toInt := congrArg Int32.toInt (pI_g hs70) |>.trans hv70
            refine hB _ _ _ _ _ (fun m159 hm159 => ?_)
            dsimp only [ucgo, ucwp, ucsC, uqC, uoC, ctC, rfd, KX3_judgeChain, KX3_judgeChain_0, KX3_judgeChain_17, KX3_judgeChain_30, KX3_judgeChain_31, KX3_judgeChain_60, KX3_judgeChain_69, KX3_judgeChain_73, KX3_judgeChain_77, KX3_judgeChain_88, KX3_judgeChain_95, KX3_judgeChain_105, KX3_judgeChain_114, KX3_judgeChain_118, KX3_judgeChain_119, KX3_judgeChain_129, KX3_judgeChain_145, lkC, s1C, s2C, dlC, kyC, Nat.beq, Nat.ble, rcd, rno, rsw, Nat.reduceAdd, Nat.reduceBEq, Nat.reduceDiv, List.drop, List.take, List.reverse, List.reverseAux, Int.toNat, Option.toList, List.append, List.cons_append, List.nil_append, zg61, zg68, zg69, zg70, zg71, zg72, zg73]
            intro a160 e160 ob160 fk160
            cases e160
            clear fk160 ob160
            generalize hs160 : pIC s70 p1 68 (fIC s70 p1 69) = s160
            have hX160 : XuC [68, 69, 70, 71] σ s160 p1 := XuC.pI (M := [68, 69, 70, 71]) hX70 (by decide) hs160
            have hv160 : (fIC s70 p1 69).toInt = r69.toInt := by omega
            intro a161 e161 ob161
            obtain rfl : a = a161 := Option.some.inj (ha.symm.trans e161)
            have f162 : (fIC s160 a 70).toInt = ta.2.1 := (congrArg Int32.toInt (hX160.1 a 70 (Or.inr na)).1).trans wa.2.1
            refine ⟨fun h163 => ?_, fun h163 => ?_⟩
            · have g163 := (eqI (x := (fIC s160 a 70)) (y := 0) h163 : ((fIC s160 a 70) : Int32).toInt = (0 : Int32).toInt)
              have z0_ : (0 : Int32).toInt = 0 := rfl
              have hcs : csT x.1.2.1 ta tb = 0 := if_neg (fun q9 => by
                obtain ⟨q7, q8, q9⟩ := q9
                omega)
              refine hB _ _ _ _ _ (fun m164 hm164 => ?_)
              dsimp only [ucgo, ucwp, ucsC, uqC, uoC, ctC, rfd, KX3_judgeChain, KX3_judgeChain_0, KX3_judgeChain_17, KX3_judgeChain_30, KX3_judgeChain_31, KX3_judgeChain_60, KX3_judgeChain_69, KX3_judgeChain_73, KX3_judgeChain_77, KX3_judgeChain_88, KX3_judgeChain_95, KX3_judgeChain_105, KX3_judgeChain_114, KX3_judgeChain_118, KX3_judgeChain_119, KX3_judgeChain_129, KX3_judgeChain_145, lkC, s1C, s2C, dlC, kyC, Nat.beq, Nat.ble, rcd, rno, rsw, Nat.reduceAdd, Nat.reduceBEq, Nat.reduceDiv, List.drop, List.take, List.reverse, List.reverseAux, Int.toNat, Option.toList, List.append, List.cons_append, List.nil_append, zg61, zg68, zg69, zg70, zg71, zg72, zg73]
              have c165 : (Int32.ofInt 0).toInt = 0 := by decide
              refine hB _ _ _ _ _ (fun m166 hm166 => ?_)
              dsimp only [ucgo, ucwp, ucsC, uqC, uoC, ctC, rfd, KX3_judgeChain, KX3_judgeChain_0, KX3_judgeChain_17, KX3_judgeChain_30, KX3_judgeChain_31, KX3_judgeChain_60, KX3_judgeChain_69, KX3_judgeChain_73, KX3_judgeChain_77, KX3_judgeChain_88, KX3_judgeChain_95, KX3_judgeChain_105, KX3_judgeChain_114, KX3_judgeChain_118, KX3_judgeChain_119, KX3_judgeChain_129, KX3_judgeChain_145, lkC, s1C, s2C, dlC, kyC, Nat.beq, Nat.ble, rcd, rno, rsw, Nat.reduceAdd, Nat.reduceBEq, Nat.reduceDiv, List.drop, List.take, List.reverse, List.reverseAux, Int.toNat, Option.toList, List.append, List.cons_append, List.nil_append, zg61, zg68, zg69, zg70, zg71, zg72, zg73]
              intro a167 e167 ob167 fk167
              cases e167
              clear fk167 ob167
              generalize hs167 : pIC s160 p1 70 (Int32.ofInt 0) = s167
              have hX167 : XuC [68, 69, 70, 71] σ s167 p1 := XuC.pI (M := [68, 69, 70, 71]) hX160 (by decide) hs167
              have hv167 : (Int32.ofInt 0).toInt = 0 := by omega
              intro a168 e168 ob168
              cases e168
              have f169 : (fIC s167 p1 70).toInt = 0 := congrArg Int32.toInt (pI_g hs167) |>.trans hv167
              refine ⟨fun h170 => ?_, fun h170 => ?_⟩
              · have g170 := (eqI (x := (fIC s167 p1 70)) (y := 0) h170 : ((fIC s167 p1 70) : Int32).toInt = (0 : Int32).toInt)
                have z0_ : (0 : Int32).toInt = 0 := rfl
                refine hB _ _ _ _ _ (fun m171 hm171 => ?_)
                dsimp only [ucgo, ucwp, ucsC, uqC, uoC, ctC, rfd, KX3_judgeChain, KX3_judgeChain_0, KX3_judgeChain_17, KX3_judgeChain_30, KX3_judgeChain_31, KX3_judgeChain_60, KX3_judgeChain_69, KX3_judgeChain_73, KX3_judgeChain_77, KX3_judgeChain_88, KX3_judgeChain_95, KX3_judgeChain_105, KX3_judgeChain_114, KX3_judgeChain_118, KX3_judgeChain_119, KX3_judgeChain_129, KX3_judgeChain_145, lkC, s1C, s2C, dlC, kyC, Nat.beq, Nat.ble, rcd, rno, rsw, Nat.reduceAdd, Nat.reduceBEq, Nat.reduceDiv, List.drop, List.take, List.reverse, List.reverseAux, Int.toNat, Option.toList, List.append, List.cons_append, List.nil_append, zg61, zg68, zg69, zg70, zg71, zg72, zg73]
                try dsimp only [Qz_judgeChain]
                exact fun τ9 h9 => ⟨rfl, JqC.we h9 (Or.inr ⟨((if 25 ≤ x.1.2.1 ∧ x.1.2.1 ≤ 30 then 0 else wrT x.1.2.1 ta.1 tb.1), csT x.1.2.1 ta tb, if csT x.1.2.1 ta tb = 1 then cvT x.1.2.1 (wrT x.1.2.1 ta.1 tb.1) ta.2.2.1 tb.2.2.1 else t.2.2.1, wrT x.1.2.1 ta.1 tb.1), by unfold x7T; rw [if_pos hct], XuC.er (M := [68, 69, 70, 71]) hX167 (by decide) he, hX167, ⟨(congrArg Int32.toInt ((pI_o hs167 (by decide)).trans (pI_g hs160))).trans (by rw [hty]; omega), (congrArg Int32.toInt (pI_g hs167)).trans (by rw [hcs]; omega), ((pI_ol hs167).trans ((pI_ol hs160).trans ((pI_ol hs70).trans rfl))).trans (ht.2.2.trans (by rw [hcs, if_neg (show ¬ (0 : Int) = 1 by decide)]))⟩, (by rw [we_i h9]; exact (congrArg Int32.toInt ((pI_o hs167 (by decide)).trans ((pI_o hs160 (by decide)).trans (pI_g hs70)))).trans hwt)⟩)⟩
              · have g170 := (neI (x := (fIC s167 p1 70)) (y := 0) h170 : ¬ ((fIC s167 p1 70) : Int32).toInt = (0 : Int32).toInt)
                have z0_ : (0 : Int32).toInt = 0 := rfl
                exfalso
                omega
            · have g163 := (neI (x := (fIC s160 a 70)) (y := 0) h163 : ¬ ((fIC s160 a 70) : Int32).toInt = (0 : Int32).toInt)
              have z0_ : (0 : Int32).toInt = 0 := rfl
              refine hB _ _ _ _ _ (fun m172 hm172 => ?_)
              dsimp only [ucgo, ucwp, ucsC, uqC, uoC, ctC, rfd, KX3_judgeChain, KX3_judgeChain_0, KX3_judgeChain_17, KX3_judgeChain_30, KX3_judgeChain_31, KX3_judgeChain_60, KX3_judgeChain_69, KX3_judgeChain_73, KX3_judgeChain_77, KX3_judgeChain_88, KX3_judgeChain_95, KX3_judgeChain_105, KX3_judgeChain_114, KX3_judgeChain_118, KX3_judgeChain_119, KX3_judgeChain_129, KX3_judgeChain_145, lkC, s1C, s2C, dlC, kyC, Nat.beq, Nat.ble, rcd, rno, rsw, Nat.reduceAdd, Nat.reduceBEq, Nat.reduceDiv, List.drop, List.take, List.reverse, List.reverseAux, Int.toNat, Option.toList, List.append, List.cons_append, List.nil_append, zg61, zg68, zg69, zg70, zg71, zg72, zg73]
              intro a173 e173 ob173
              obtain rfl : b = a173 := Option.some.inj (hb.symm.trans e173)
              have f174 : (fIC s160 b 70).toInt = tb.2.1 := (congrArg Int32.toInt (hX160.1 b 70 (Or.inr nb)).1).trans wb.2.1
              refine ⟨fun h175 => ?_, fun h175 => ?_⟩
              · have g175 := (eqI (x := (fIC s160 b 70)) (y := 0) h175 : ((fIC s160 b 70) : Int32).toInt = (0 : Int32).toInt)
                have z0_ : (0 : Int32).toInt = 0 := rfl
                have hcs : csT x.1.2.1 ta tb = 0 := if_neg (fun q9 => by
                  obtain ⟨q7, q8, q9⟩ := q9
                  omega)
                refine hB _ _ _ _ _ (fun m176 hm176 => ?_)
                dsimp only [ucgo, ucwp, ucsC, uqC, uoC, ctC, rfd, KX3_judgeChain, KX3_judgeChain_0, KX3_judgeChain_17, KX3_judgeChain_30, KX3_judgeChain_31, KX3_judgeChain_60, KX3_judgeChain_69, KX3_judgeChain_73, KX3_judgeChain_77, KX3_judgeChain_88, KX3_judgeChain_95, KX3_judgeChain_105, KX3_judgeChain_114, KX3_judgeChain_118, KX3_judgeChain_119, KX3_judgeChain_129, KX3_judgeChain_145, lkC, s1C, s2C, dlC, kyC, Nat.beq, Nat.ble, rcd, rno, rsw, Nat.reduceAdd, Nat.reduceBEq, Nat.reduceDiv, List.drop, List.take, List.reverse, List.reverseAux, Int.toNat, Option.toList, List.append, List.cons_append, List.nil_append, zg61, zg68, zg69, zg70, zg71, zg72, zg73]
                have c177 : (Int32.ofInt 0).toInt = 0 := by decide
                refine hB _ _ _ _ _ (fun m178 hm178 => ?_)
                dsimp only [ucgo, ucwp, ucsC, uqC, uoC, ctC, rfd, KX3_judgeChain, KX3_judgeChain_0, KX3_judgeChain_17, KX3_judgeChain_30, KX3_judgeChain_31, KX3_judgeChain_60, KX3_judgeChain_69, KX3_judgeChain_73, KX3_judgeChain_77, KX3_judgeChain_88, KX3_judgeChain_95, KX3_judgeChain_105, KX3_judgeChain_114, KX3_judgeChain_118, KX3_judgeChain_119, KX3_judgeChain_129, KX3_judgeChain_145, lkC, s1C, s2C, dlC, kyC, Nat.beq, Nat.ble, rcd, rno, rsw, Nat.reduceAdd, Nat.reduceBEq, Nat.reduceDiv, List.drop, List.take, List.reverse, List.reverseAux, Int.toNat, Option.toList, List.append, List.cons_append, List.nil_append, zg61, zg68, zg69, zg70, zg71, zg72, zg73]
                intro a179 e179 ob179 fk179
                cases e179
                clear fk179 ob179
                generalize hs179 : pIC s160 p1 70 (Int32.ofInt 0) = s179
                have hX179 : XuC [68, 69, 70, 71] σ s179 p1 := XuC.pI (M := [68, 69, 70, 71]) hX160 (by decide) hs179
                have hv179 : (Int32.ofInt 0).toInt = 0 := by omega
                intro a180 e180 ob180
                cases e180
                have f181 : (fIC s179 p1 70).toInt = 0 := congrArg Int32.toInt (pI_g hs179) |>.trans hv179
                refine ⟨fun h182 => ?_, fun h182 => ?_⟩
                · have g182 := (eqI (x := (fIC s179 p1 70)) (y := 0) h182 : ((fIC s179 p1 70) : Int32).toInt = (0 : Int32).toInt)
                  have z0_ : (0 : Int32).toInt = 0 := rfl
                  refine hB _ _ _ _ _ (fun m183 hm183 => ?_)
                  dsimp only [ucgo, ucwp, ucsC, uqC, uoC, ctC, rfd, KX3_judgeChain, KX3_judgeChain_0, KX3_judgeChain_17, KX3_judgeChain_30, KX3_judgeChain_31, KX3_judgeChain_60, KX3_judgeChain_69, KX3_judgeChain_73, KX3_judgeChain_77, KX3_judgeChain_88, KX3_judgeChain_95, KX3_judgeChain_105, KX3_judgeChain_114, KX3_judgeChain_118, KX3_judgeChain_119, KX3_judgeChain_129, KX3_judgeChain_145, lkC, s1C, s2C, dlC, kyC, Nat.beq, Nat.ble, rcd, rno, rsw, Nat.reduceAdd, Nat.reduceBEq, Nat.reduceDiv, List.drop, List.take, List.reverse, List.reverseAux, Int.toNat, Option.toList, List.append, List.cons_append, List.nil_append, zg61, zg68, zg69, zg70, zg71, zg72, zg73]
                  try dsimp only [Qz_judgeChain]
                  exact fun τ9 h9 => ⟨rfl, JqC.we h9 (Or.inr ⟨((if 25 ≤ x.1.2.1 ∧ x.1.2.1 ≤ 30 then 0 else wrT x.1.2.1 ta.1 tb.1), csT x.1.2.1 ta tb, if csT x.1.2.1 ta tb = 1 then cvT x.1.2.1 (wrT x.1.2.1 ta.1 tb.1) ta.2.2.1 tb.2.2.1 else t.2.2.1, wrT x.1.2.1 ta.1 tb.1), by unfold x7T; rw [if_pos hct], XuC.er (M := [68, 69, 70, 71]) hX179 (by decide) he, hX179, ⟨(congrArg Int32.toInt ((pI_o hs179 (by decide)).trans (pI_g hs160))).trans (by rw [hty]; omega), (congrArg Int32.toInt (pI_g hs179)).trans (by rw [hcs]; omega), ((pI_ol hs179).trans ((pI_ol hs160).trans ((pI_ol hs70).trans rfl))).trans (ht.2.2.trans (by rw [hcs, if_neg (show ¬ (0 : Int) = 1 by decide)]))⟩, (by rw [we_i h9]; exact (congrArg Int32.toInt ((pI_o hs179 (by decide)).trans ((pI_o hs160 (by decide)).trans (pI_g hs70)))).trans hwt)⟩)⟩
                · have g182 := (neI (x := (fIC s179 p1 70)) (y := 0) h182 : ¬ ((fIC s179 p1 70) : Int32).toInt = (0 : Int32).toInt)
                  have z0_ : (0 : Int32).toInt = 0 := rfl
                  exfalso
                  omega
              · have g175 := (neI (x := (fIC s160 b 70)) (y := 0) h175 : ¬ ((fIC s160 b 70) : Int32).toInt = (0 : Int32).toInt)
                have z0_ : (0 : Int32).toInt = 0 := rfl
                refine hB _ _ _ _ _ (fun m184 hm184 => ?_)
                dsimp only [ucgo, ucwp, ucsC, uqC, uoC, ctC, rfd, KX3_judgeChain, KX3_judgeChain_0, KX3_judgeChain_17, KX3_judgeChain_30, KX3_judgeChain_31, KX3_judgeChain_60, KX3_judgeChain_69, KX3_judgeChain_73, KX3_judgeChain_77, KX3_judgeChain_88, KX3_judgeChain_95, KX3_judgeChain_105, KX3_judgeChain_114, KX3_judgeChain_118, KX3_judgeChain_119, KX3_judgeChain_129, KX3_judgeChain_145, lkC, s1C, s2C, dlC, kyC, Nat.beq, Nat.ble, rcd, rno, rsw, Nat.reduceAdd, Nat.reduceBEq, Nat.reduceDiv, List.drop, List.take, List.reverse, List.reverseAux, Int.toNat, Option.toList, List.append, List.cons_append, List.nil_append, zg61, zg68, zg69, zg70, zg71, zg72, zg73]
                intro a185 e185 ob185
                cases e185
                have f186 : (fIC s160 p1 61).toInt = x.1.2.1 := (congrArg Int32.toInt (hX160.1 p1 61 (Or.inl (by decide))).1).trans hx.1.2.1
                intro w187 τ187 o187 q187
                obtain ⟨r187, rfl, hr187, rfl⟩ := q187 (N, E, A, B, V, z) ⟨_, rfl⟩
                try dsimp only [Option.toList, List.cons_append, List.nil_append, s1C, s2C, dlC, kyC, Nat.beq, lkC, rcd, rno, rsw]
                refine ⟨fun h188 => ?_, fun h188 => ?_⟩
                · have g188 := (eqI (x := r187) (y := 0) h188 : (r187 : Int32).toInt = (0 : Int32).toInt)
                  have z0_ : (0 : Int32).toInt = 0 := rfl
                  have hcs : csT x.1.2.1 ta tb = 1 := if_pos ⟨by omega, by omega, fun q9 => by omega⟩
                  refine hB _ _ _ _ _ (fun m189 hm189 => ?_)
                  dsimp only [ucgo, ucwp, ucsC, uqC, uoC, ctC, rfd, KX3_judgeChain, KX3_judgeChain_0, KX3_judgeChain_17, KX3_judgeChain_30, KX3_judgeChain_31, KX3_judgeChain_60, KX3_judgeChain_69, KX3_judgeChain_73, KX3_judgeChain_77, KX3_judgeChain_88, KX3_judgeChain_95, KX3_judgeChain_105, KX3_judgeChain_114, KX3_judgeChain_118, KX3_judgeChain_119, KX3_judgeChain_129, KX3_judgeChain_145, lkC, s1C, s2C, dlC, kyC, Nat.beq, Nat.ble, rcd, rno, rsw, Nat.reduceAdd, Nat.reduceBEq, Nat.reduceDiv, List.drop, List.take, List.reverse, List.reverseAux, Int.toNat, Option.toList, List.append, List.cons_append, List.nil_append, zg61, zg68, zg69, zg70, zg71, zg72, zg73]
                  have c190 : (Int32.ofInt 1).toInt = 1 := by decide
                  refine hB _ _ _ _ _ (fun m191 hm191 => ?_)
                  dsimp only [ucgo, ucwp, ucsC, uqC, uoC, ctC, rfd, KX3_judgeChain, KX3_judgeChain_0, KX3_judgeChain_17, KX3_judgeChain_30, KX3_judgeChain_31, KX3_judgeChain_60, KX3_judgeChain_69, KX3_judgeChain_73, KX3_judgeChain_77, KX3_judgeChain_88, KX3_judgeChain_95, KX3_judgeChain_105, KX3_judgeChain_114, KX3_judgeChain_118, KX3_judgeChain_119, KX3_judgeChain_129, KX3_judgeChain_145, lkC, s1C, s2C, dlC, kyC, Nat.beq, Nat.ble, rcd, rno, rsw, Nat.reduceAdd, Nat.reduceBEq, Nat.reduceDiv, List.drop, List.take, List.reverse, List.reverseAux, Int.toNat, Option.toList, List.append, List.cons_append, List.nil_append, zg61, zg68, zg69, zg70, zg71, zg72, zg73]
                  intro a192 e192 ob192 fk192
                  cases e192
                  clear fk192 ob192
                  generalize hs192 : pIC s160 p1 70 (Int32.ofInt 1) = s192
                  have hX192 : XuC [68, 69, 70, 71] σ s192 p1 := XuC.pI (M := [68, 69, 70, 71]) hX160 (by decide) hs192
                  have hv192 : (Int32.ofInt 1).toInt = 1 := by omega
                  intro a193 e193 ob193
                  cases e193
                  have f194 : (fIC s192 p1 70).toInt = 1 := congrArg Int32.toInt (pI_g hs192) |>.trans hv192
                  refine ⟨fun h195 => ?_, fun h195 => ?_⟩
                  · have g195 := (eqI (x := (fIC s192 p1 70)) (y := 0) h195 : ((fIC s192 p1 70) : Int32).toInt = (0 : Int32).toInt)
                    have z0_ : (0 : Int32).toInt = 0 := rfl
                    exfalso
                    omega
                  · have g195 := (neI (x := (fIC s192 p1 70)) (y := 0) h195 : ¬ ((fIC s192 p1 70) : Int32).toInt = (0 : Int32).toInt)
                    have z0_ : (0 : Int32).toInt = 0 := rfl
                    refine hB _ _ _ _ _ (fun m196 hm196 => ?_)
                    dsimp only [ucgo, ucwp, ucsC, uqC, uoC, ctC, rfd, KX3_judgeChain, KX3_judgeChain_0, KX3_judgeChain_17, KX3_judgeChain_30, KX3_judgeChain_31, KX3_judgeChain_60, KX3_judgeChain_69, KX3_judgeChain_73, KX3_judgeChain_77, KX3_judgeChain_88, KX3_judgeChain_95, KX3_judgeChain_105, KX3_judgeChain_114, KX3_judgeChain_118, KX3_judgeChain_119, KX3_judgeChain_129, KX3_judgeChain_145, lkC, s1C, s2C, dlC, kyC, Nat.beq, Nat.ble, rcd, rno, rsw, Nat.reduceAdd, Nat.reduceBEq, Nat.reduceDiv, List.drop, List.take, List.reverse, List.reverseAux, Int.toNat, Option.toList, List.append, List.cons_append, List.nil_append, zg61, zg68, zg69, zg70, zg71, zg72, zg73]
                    intro a197 e197 ob197
                    obtain rfl : a = a197 := Option.some.inj (ha.symm.trans e197)
                    have fl198 : (fLC s192 a 71) = fLC σ a 71 := (hX192.1 a 71 (Or.inr na)).2.1
                    intro a199 e199 ob199
                    obtain rfl : b = a199 := Option.some.inj (hb.symm.trans e199)
                    have fl200 : (fLC s192 b 71) = fLC σ b 71 := (hX192.1 b 71 (Or.inr nb)).2.1
                    intro w201 τ201 o201 q201
                    obtain ⟨r201, rfl, hr201, rfl⟩ := q201 (N, E, A, B, V, z) ⟨_, _, _, rfl⟩
                    have hwv : r201 = cvT x.1.2.1 (wrT x.1.2.1 ta.1 tb.1) ta.2.2.1 tb.2.2.1 := by rw [hr201, show (fIC s192 p1 61).toInt = x.1.2.1 from ((congrArg Int32.toInt (hX192.1 p1 61 (Or.inl (by decide))).1).trans hx.1.2.1), show (fIC s192 p1 69).toInt = wrT x.1.2.1 ta.1 tb.1 from (congrArg Int32.toInt ((pI_o hs192 (by decide)).trans ((pI_o hs160 (by decide)).trans (pI_g hs70)))).trans hwt, show (fLC s192 a 71) = ta.2.2.1 from (fl198.trans wa.2.2), show (fLC s192 b 71) = tb.2.2.1 from (fl200.trans wb.2.2)]
                    try dsimp only [Option.toList, List.cons_append, List.nil_append, s1C, s2C, dlC, kyC, Nat.beq, lkC, rcd, rno, rsw]
                    intro a202 e202 ob202 fk202
                    cases e202
                    clear fk202 ob202
                    generalize hs202 : pLC s192 p1 71 r201 = s202
                    have hX202 : XuC [68, 69, 70, 71] σ s202 p1 := XuC.pL (M := [68, 69, 70, 71]) hX192 (by decide) hs202
                    refine hB _ _ _ _ _ (fun m203 hm203 => ?_)
                    dsimp only [ucgo, ucwp, ucsC, uqC, uoC, ctC, rfd, KX3_judgeChain, KX3_judgeChain_0, KX3_judgeChain_17, KX3_judgeChain_30, KX3_judgeChain_31, KX3_judgeChain_60, KX3_judgeChain_69, KX3_judgeChain_73, KX3_judgeChain_77, KX3_judgeChain_88, KX3_judgeChain_95, KX3_judgeChain_105, KX3_judgeChain_114, KX3_judgeChain_118, KX3_judgeChain_119, KX3_judgeChain_129, KX3_judgeChain_145, lkC, s1C, s2C, dlC, kyC, Nat.beq, Nat.ble, rcd, rno, rsw, Nat.reduceAdd, Nat.reduceBEq, Nat.reduceDiv, List.drop, List.take, List.reverse, List.reverseAux, Int.toNat, Option.toList, List.append, List.cons_append, List.nil_append, zg61, zg68, zg69, zg70, zg71, zg72, zg73]
                    try dsimp only [Qz_judgeChain]
                    exact fun τ9 h9 => ⟨rfl, JqC.we h9 (Or.inr ⟨((if 25 ≤ x.1.2.1 ∧ x.1.2.1 ≤ 30 then 0 else wrT x.1.2.1 ta.1 tb.1), csT x.1.2.1 ta tb, if csT x.1.2.1 ta tb = 1 then cvT x.1.2.1 (wrT x.1.2.1 ta.1 tb.1) ta.2.2.1 tb.2.2.1 else t.2.2.1, wrT x.1.2.1 ta.1 tb.1), by unfold x7T; rw [if_pos hct], XuC.er (M := [68, 69, 70, 71]) hX202 (by decide) he, hX202, ⟨(congrArg Int32.toInt ((pL_oi hs202).trans ((pI_o hs192 (by decide)).trans (pI_g hs160)))).trans (by rw [hty]; omega), (congrArg Int32.toInt ((pL_oi hs202).trans (pI_g hs192))).trans (by rw [hcs]; omega), (pL_g hs202).trans (by rw [hcs, if_pos rfl]; exact hwv)⟩, (by rw [we_i h9]; exact (congrArg Int32.toInt ((pL_oi hs202).trans ((pI_o hs192 (by decide)).trans ((pI_o hs160 (by decide)).trans (pI_g hs70))))).trans hwt)⟩)⟩
                · have g188 := (neI (x := r187) (y := 0) h188 : ¬ (r187 : Int32).toInt = (0 : Int32).toInt)
                  have z0_ : (0 : Int32).toInt = 0 := rfl
                  refine hB _ _ _ _ _ (fun m204 hm204 => ?_)
                  dsimp only [ucgo, ucwp, ucsC, uqC, uoC, ctC, rfd, KX3_judgeChain, KX3_judgeChain_0, KX3_judgeChain_17, KX3_judgeChain_30, KX3_judgeChain_31, KX3_judgeChain_60, KX3_judgeChain_69, KX3_judgeChain_73, KX3_judgeChain_77, KX3_judgeChain_88, KX3_judgeChain_95, KX3_judgeChain_105, KX3_judgeChain_114, KX3_judgeChain_118, KX3_judgeChain_119, KX3_judgeChain_129, KX3_judgeChain_145, lkC, s1C, s2C, dlC, kyC, Nat.beq, Nat.ble, rcd, rno, rsw, Nat.reduceAdd, Nat.reduceBEq, Nat.reduceDiv, List.drop, List.take, List.reverse, List.reverseAux, Int.toNat, Option.toList, List.append, List.cons_append, List.nil_append, zg61, zg68, zg69, zg70, zg71, zg72, zg73]
                  intro a205 e205 ob205
                  obtain rfl : b = a205 := Option.some.inj (hb.symm.trans e205)
                  have fl206 : (fLC s160 b 71) = fLC σ b 71 := (hX160.1 b 71 (Or.inr nb)).2.1
                  have lc207 : (lg_cmp (fLC s160 b 71) (Int64.ofNat ((0 : Fin 2) : Nat))).toInt = 0 → (fLC s160 b 71) = (Int64.ofNat ((0 : Fin 2) : Nat)) := lcmpC
                  have ld207 : (fLC s160 b 71) = (Int64.ofNat ((0 : Fin 2) : Nat)) → (lg_cmp (fLC s160 b 71) (Int64.ofNat ((0 : Fin 2) : Nat))).toInt = 0 := fun e => by rw [e]; exact lcmp0
                  refine ⟨fun h208 => ?_, fun h208 => ?_⟩
                  · have g208 := (eqI (x := (lg_cmp (fLC s160 b 71) (Int64.ofNat ((0 : Fin 2) : Nat)))) (y := 0) h208 : ((lg_cmp (fLC s160 b 71) (Int64.ofNat ((0 : Fin 2) : Nat))) : Int32).toInt = (0 : Int32).toInt)
                    have z0_ : (0 : Int32).toInt = 0 := rfl
                    have hcs : csT x.1.2.1 ta tb = 0 := if_neg (fun q9 => by
                      obtain ⟨q7, q8, q9⟩ := q9
                      exact q9 ⟨by omega, ((fl206.trans wb.2.2).symm.trans (lc207 (by omega)))⟩)
                    refine hB _ _ _ _ _ (fun m209 hm209 => ?_)
                    dsimp only [ucgo, ucwp, ucsC, uqC, uoC, ctC, rfd, KX3_judgeChain, KX3_judgeChain_0, KX3_judgeChain_17, KX3_judgeChain_30, KX3_judgeChain_31, KX3_judgeChain_60, KX3_judgeChain_69, KX3_judgeChain_73, KX3_judgeChain_77, KX3_judgeChain_88, KX3_judgeChain_95, KX3_judgeChain_105, KX3_judgeChain_114, KX3_judgeChain_118, KX3_judgeChain_119, KX3_judgeChain_129, KX3_judgeChain_145, lkC, s1C, s2C, dlC, kyC, Nat.beq, Nat.ble, rcd, rno, rsw, Nat.reduceAdd, Nat.reduceBEq, Nat.reduceDiv, List.drop, List.take, List.reverse, List.reverseAux, Int.toNat, Option.toList, List.append, List.cons_append, List.nil_append, zg61, zg68, zg69, zg70, zg71, zg72, zg73]
                    have c210 : (Int32.ofInt 0).toInt = 0 := by decide
                    refine hB _ _ _ _ _ (fun m211 hm211 => ?_)
                    dsimp only [ucgo, ucwp, ucsC, uqC, uoC, ctC, rfd, KX3_judgeChain, KX3_judgeChain_0, KX3_judgeChain_17, KX3_judgeChain_30, KX3_judgeChain_31, KX3_judgeChain_60, KX3_judgeChain_69, KX3_judgeChain_73, KX3_judgeChain_77, KX3_judgeChain_88, KX3_judgeChain_95, KX3_judgeChain_105, KX3_judgeChain_114, KX3_judgeChain_118, KX3_judgeChain_119, KX3_judgeChain_129, KX3_judgeChain_145, lkC, s1C, s2C, dlC, kyC, Nat.beq, Nat.ble, rcd, rno, rsw, Nat.reduceAdd, Nat.reduceBEq, Nat.reduceDiv, List.drop, List.take, List.reverse, List.reverseAux, Int.toNat, Option.toList, List.append, List.cons_append, List.nil_append, zg61, zg68, zg69, zg70, zg71, zg72, zg73]
                    intro a212 e212 ob212 fk212
                    cases e212
                    clear fk212 ob212
                    generalize hs212 : pIC s160 p1 70 (Int32.ofInt 0) = s212
                    have hX212 : XuC [68, 69, 70, 71] σ s212 p1 := XuC.pI (M := [68, 69, 70, 71]) hX160 (by decide) hs212
                    have hv212 : (Int32.ofInt 0).toInt = 0 := by omega
                    intro a213 e213 ob213
                    cases e213
                    have f214 : (fIC s212 p1 70).toInt = 0 := congrArg Int32.toInt (pI_g hs212) |>.trans hv212
                    refine ⟨fun h215 => ?_, fun h215 => ?_⟩
                    · have g215 := (eqI (x := (fIC s212 p1 70)) (y := 0) h215 : ((fIC s212 p1 70) : Int32).toInt = (0 : Int32).toInt)
                      have z0_ : (0 : Int32).toInt = 0 := rfl
                      refine hB _ _ _ _ _ (fun m216 hm216 => ?_)
                      dsimp only [ucgo, ucwp, ucsC, uqC, uoC, ctC, rfd, KX3_judgeChain, KX3_judgeChain_0, KX3_judgeChain_17, KX3_judgeChain_30, KX3_judgeChain_31, KX3_judgeChain_60, KX3_judgeChain_69, KX3_judgeChain_73, KX3_judgeChain_77, KX3_judgeChain_88, KX3_judgeChain_95, KX3_judgeChain_105, KX3_judgeChain_114, KX3_judgeChain_118, KX3_judgeChain_119, KX3_judgeChain_129, KX3_judgeChain_145, lkC, s1C, s2C, dlC, kyC, Nat.beq, Nat.ble, rcd, rno, rsw, Nat.reduceAdd, Nat.reduceBEq, Nat.reduceDiv, List.drop, List.take, List.reverse, List.reverseAux, Int.toNat, Option.toList, List.append, List.cons_append, List.nil_append, zg61, zg68, zg69, zg70, zg71, zg72, zg73]
                      try dsimp only [Qz_judgeChain]
                      exact fun τ9 h9 => ⟨rfl, JqC.we h9 (Or.inr ⟨((if 25 ≤ x.1.2.1 ∧ x.1.2.1 ≤ 30 then 0 else wrT x.1.2.1 ta.1 tb.1), csT x.1.2.1 ta tb, if csT x.1.2.1 ta tb = 1 then cvT x.1.2.1 (wrT x.1.2.1 ta.1 tb.1) ta.2.2.1 tb.2.2.1 else t.2.2.1, wrT x.1.2.1 ta.1 tb.1), by unfold x7T; rw [if_pos hct], XuC.er (M := [68, 69, 70, 71]) hX212 (by decide) he, hX212, ⟨(congrArg Int32.toInt ((pI_o hs212 (by decide)).trans (pI_g hs160))).trans (by rw [hty]; omega), (congrArg Int32.toInt (pI_g hs212)).trans (by rw [hcs]; omega), ((pI_ol hs212).trans ((pI_ol hs160).trans ((pI_ol hs70).trans rfl))).trans (ht.2.2.trans (by rw [hcs, if_neg (show ¬ (0 : Int) = 1 by decide)]))⟩, (by rw [we_i h9]; exact (congrArg Int32.toInt ((pI_o hs212 (by decide)).trans ((pI_o hs160 (by decide)).trans (pI_g hs70)))).trans hwt)⟩)⟩
                    · have g215 := (neI (x := (fIC s212 p1 70)) (y := 0) h215 : ¬ ((fIC s212 p1 70) : Int32).toInt = (0 : Int32).toInt)
                      have z0_ : (0 : Int32).toInt = 0 := rfl
                      exfalso
                      omega
                  · have g208 := (neI (x := (lg_cmp (fLC s160 b 71) (Int64.ofNat ((0 : Fin 2) : Nat)))) (y := 0) h208 : ¬ ((lg_cmp (fLC s160 b 71) (Int64.ofNat ((0 : Fin 2) : Nat))) : Int32).toInt = (0 : Int32).toInt)
                    have z0_ : (0 : Int32).toInt = 0 := rfl
                    have hcs : csT x.1.2.1 ta tb = 1 := if_pos ⟨by omega, by omega, fun q9 => absurd (ld207 ((fl206.trans wb.2.2).trans q9.2)) (by omega)⟩
                    refine hB _ _ _ _ _ (fun m217 hm217 => ?_)
                    dsimp only [ucgo, ucwp, ucsC, uqC, uoC, ctC, rfd, KX3_judgeChain, KX3_judgeChain_0, KX3_judgeChain_17, KX3_judgeChain_30, KX3_judgeChain_31, KX3_judgeChain_60, KX3_judgeChain_69, KX3_judgeChain_73, KX3_judgeChain_77, KX3_judgeChain_88, KX3_judgeChain_95, KX3_judgeChain_105, KX3_judgeChain_114, KX3_judgeChain_118, KX3_judgeChain_119, KX3_judgeChain_129, KX3_judgeChain_145, lkC, s1C, s2C, dlC, kyC, Nat.beq, Nat.ble, rcd, rno, rsw, Nat.reduceAdd, Nat.reduceBEq, Nat.reduceDiv, List.drop, List.take, List.reverse, List.reverseAux, Int.toNat, Option.toList, List.append, List.cons_append, List.nil_append, zg61, zg68, zg69, zg70, zg71, zg72, zg73]
                    have c218 : (Int32.ofInt 1).toInt = 1 := by decide
                    refine hB _ _ _ _ _ (fun m219 hm219 => ?_)
                    dsimp only [ucgo, ucwp, ucsC, uqC, uoC, ctC, rfd, KX3_judgeChain, KX3_judgeChain_0, KX3_judgeChain_17, KX3_judgeChain_30, KX3_judgeChain_31, KX3_judgeChain_60, KX3_judgeChain_69, KX3_judgeChain_73, KX3_judgeChain_77, KX3_judgeChain_88, KX3_judgeChain_95, KX3_judgeChain_105, KX3_judgeChain_114, KX3_judgeChain_118, KX3_judgeChain_119, KX3_judgeChain_129, KX3_judgeChain_145, lkC, s1C, s2C, dlC, kyC, Nat.beq, Nat.ble, rcd, rno, rsw, Nat.reduceAdd, Nat.reduceBEq, Nat.reduceDiv, List.drop, List.take, List.reverse, List.reverseAux, Int.toNat, Option.toList, List.append, List.cons_append, List.nil_append, zg61, zg68, zg69, zg70, zg71, zg72, zg73]
                    intro a220 e220 ob220 fk220
                    cases e220
                    clear fk220 ob220
                    generalize hs220 : pIC s160 p1 70 (Int32.ofInt 1) = s220
                    have hX220 : XuC [68, 69, 70, 71] σ s220 p1 := XuC.pI (M := [68, 69, 70, 71]) hX160 (by decide) hs220
                    have hv220 : (Int32.ofInt 1).toInt = 1 := by omega
                    intro a221 e221 ob221
                    cases e221
                    have f222 : (fIC s220 p1 70).toInt = 1 := congrArg Int32.toInt (pI_g hs220) |>.trans hv220
                    refine ⟨fun h223 => ?_, fun h223 => ?_⟩
                    · have g223 := (eqI (x := (fIC s220 p1 70)) (y := 0) h223 : ((fIC s220 p1 70) : Int32).toInt = (0 : Int32).toInt)
                      have z0_ : (0 : Int32).toInt = 0 := rfl
                      exfalso
                      omega
                    · have g223 := (neI (x := (fIC s220 p1 70)) (y := 0) h223 : ¬ ((fIC s220 p1 70) : Int32).toInt = (0 : Int32).toInt)
                      have z0_ : (0 : Int32).toInt = 0 := rfl
                      refine hB _ _ _ _ _ (fun m224 hm224 => ?_)
                      dsimp only [ucgo, ucwp, ucsC, uqC, uoC, ctC, rfd, KX3_judgeChain, KX3_judgeChain_0, KX3_judgeChain_17, KX3_judgeChain_30, KX3_judgeChain_31, KX3_judgeChain_60, KX3_judgeChain_69, KX3_judgeChain_73, KX3_judgeChain_77, KX3_judgeChain_88, KX3_judgeChain_95, KX3_judgeChain_105, KX3_judgeChain_114, KX3_judgeChain_118, KX3_judgeChain_119, KX3_judgeChain_129, KX3_judgeChain_145, lkC, s1C, s2C, dlC, kyC, Nat.beq, Nat.ble, rcd, rno, rsw, Nat.reduceAdd, Nat.reduceBEq, Nat.reduceDiv, List.drop, List.take, List.reverse, List.reverseAux, Int.toNat, Option.toList, List.append, List.cons_append, List.nil_append, zg61, zg68, zg69, zg70, zg71, zg72, zg73]
                      intro a225 e225 ob225
                      obtain rfl : a = a225 := Option.some.inj (ha.symm.trans e225)
                      have fl226 : (fLC s220 a 71) = fLC σ a 71 := (hX220.1 a 71 (Or.inr na)).2.1
                      intro a227 e227 ob227
                      obtain rfl : b = a227 := Option.some.inj (hb.symm.trans e227)
                      have fl228 : (fLC s220 b 71) = fLC σ b 71 := (hX220.1 b 71 (Or.inr nb)).2.1
                      intro w229 τ229 o229 q229
                      obtain ⟨r229, rfl, hr229, rfl⟩ := q229 (N, E, A, B, V, z) ⟨_, _, _, rfl⟩
                      have hwv : r229 = cvT x.1.2.1 (wrT x.1.2.1 ta.1 tb.1) ta.2.2.1 tb.2.2.1 := by rw [hr229, show (fIC s220 p1 61).toInt = x.1.2.1 from ((congrArg Int32.toInt (hX220.1 p1 61 (Or.inl (by decide))).1).trans hx.1.2.1), show (fIC s220 p1 69).toInt = wrT x.1.2.1 ta.1 tb.1 from (congrArg Int32.toInt ((pI_o hs220 (by decide)).trans ((pI_o hs160 (by decide)).trans (pI_g hs70)))).trans hwt, show (fLC s220 a 71) = ta.2.2.1 from (fl226.trans wa.2.2), show (fLC s220 b 71) = tb.2.2.1 from (fl228.trans wb.2.2)]
                      try dsimp only [Option.toList, List.cons_append, List.nil_append, s1C, s2C, dlC, kyC, Nat.beq, lkC, rcd, rno, rsw]
                      intro a230 e230 ob230 fk230
                      cases e230
                      clear fk230 ob230
                      generalize hs230 : pLC s220 p1 71 r229 = s230
                      have hX230 : XuC [68, 69, 70, 71] σ s230 p1 := XuC.pL (M := [68, 69, 70, 71]) hX220 (by decide) hs230
                      refine hB _ _ _ _ _ (fun m231 hm231 => ?_)
                      dsimp only [ucgo, ucwp, ucsC, uqC, uoC, ctC, rfd, KX3_judgeChain, KX3_judgeChain_0, KX3_judgeChain_17, KX3_judgeChain_30, KX3_judgeChain_31, KX3_judgeChain_60, KX3_judgeChain_69, KX3_judgeChain_73, KX3_judgeChain_77, KX3_judgeChain_88, KX3_judgeChain_95, KX3_judgeChain_105, KX3_judgeChain_114, KX3_judgeChain_118, KX3_judgeChain_119, KX3_judgeChain_129, KX3_judgeChain_145, lkC, s1C, s2C, dlC, kyC, Nat.beq, Nat.ble, rcd, rno, rsw, Nat.reduceAdd, Nat.reduceBEq, Nat.reduceDiv, List.drop, List.take, List.reverse, List.reverseAux, Int.toNat, Option.toList, List.append, List.cons_append, List.nil_append, zg61, zg68, zg69, zg70, zg71, zg72, zg73]
                      try dsimp only [Qz_judgeChain]
                      exact fun τ9 h9 => ⟨rfl, JqC.we h9 (Or.inr ⟨((if 25 ≤ x.1.2.1 ∧ x.1.2.1 ≤ 30 then 0 else wrT x.1.2.1 ta.1 tb.1), csT x.1.2.1 ta tb, if csT x.1.2.1 ta tb = 1 then cvT x.1.2.1 (wrT x.1.2.1 ta.1 tb.1) ta.2.2.1 tb.2.2.1 else t.2.2.1, wrT x.1.2.1 ta.1 tb.1), by unfold x7T; rw [if_pos hct], XuC.er (M := [68, 69, 70, 71]) hX230 (by decide) he, hX230, ⟨(congrArg Int32.toInt ((pL_oi hs230).trans ((pI_o hs220 (by decide)).trans (pI_g hs160)))).trans (by rw [hty]; omega), (congrArg Int32.toInt ((pL_oi hs230).trans (pI_g hs220))).trans (by rw [hcs]; omega), (pL_g hs230).trans (by rw [hcs, if_pos rfl]; exact hwv)⟩, (by rw [we_i h9]; exact (congrArg Int32.toInt ((pL_oi hs230).trans ((pI_o hs220 (by decide)).trans ((pI_o hs160 (by decide)).trans (pI_g hs70))))).trans hwt)⟩)⟩
          · have g155 := nltI (x := (Int32.ofInt 30)) (y := (fIC s70 p1 61)) h155
            have hty : (if 25 ≤ x.1.2.1 ∧ x.1.2.1 ≤ 30 then 0 else wrT x.1.2.1 ta.1 tb.1) = 0 := if_pos ⟨by omega, by omega⟩
            refine hB _ _ _ _ _ (fun m232 hm232 => ?_)
            dsimp only [ucgo, ucwp, ucsC, uqC, uoC, ctC, rfd, KX3_judgeChain, KX3_judgeChain_0, KX3_judgeChain_17, KX3_judgeChain_30, KX3_judgeChain_31, KX3_judgeChain_60, KX3_judgeChain_69, KX3_judgeChain_73, KX3_judgeChain_77, KX3_judgeChain_88, KX3_judgeChain_95, KX3_judgeChain_105, KX3_judgeChain_114, KX3_judgeChain_118, KX3_judgeChain_119, KX3_judgeChain_129, KX3_judgeChain_145, lkC, s1C, s2C, dlC, kyC, Nat.beq, Nat.ble, rcd, rno, rsw, Nat.reduceAdd, Nat.reduceBEq, Nat.reduceDiv, List.drop, List.take, List.reverse, List.reverseAux, Int.toNat, Option.toList, List.append, List.cons_append, List.nil_append, zg61, zg68, zg69, zg70, zg71, zg72, zg73]
            have c233 : (Int32.ofInt 0).toInt = 0 := by decide
            refine hB _ _ _ _ _ (fun m234 hm234 => ?_)
            dsimp only [ucgo, ucwp, ucsC, uqC, uoC, ctC, rfd, KX3_judgeChain, KX3_judgeChain_0, KX3_judgeChain_17, KX3_judgeChain_30, KX3_judgeChain_31, KX3_judgeChain_60, KX3_judgeChain_69, KX3_judgeChain_73, KX3_judgeChain_77, KX3_judgeChain_88, KX3_judgeChain_95, KX3_judgeChain_105, KX3_judgeChain_114, KX3_judgeChain_118, KX3_judgeChain_119, KX3_judgeChain_129, KX3_judgeChain_145, lkC, s1C, s2C, dlC, kyC, Nat.beq, Nat.ble, rcd, rno, rsw, Nat.reduceAdd, Nat.reduceBEq, Nat.reduceDiv, List.drop, List.take, List.reverse, List.reverseAux, Int.toNat, Option.toList, List.append, List.cons_append, List.nil_append, zg61, zg68, zg69, zg70, zg71, zg72, zg73]
            intro a235 e235 ob235 fk235
            cases e235
            clear fk235 ob235
            generalize hs235 : pIC s70 p1 68 (Int32.ofInt 0) = s235
            have hX235 : XuC [68, 69, 70, 71] σ s235 p1 := XuC.pI (M := [68, 69, 70, 71]) hX70 (by decide) hs235
            have hv235 : (Int32.ofInt 0).toInt = 0 := by omega
            intro a236 e236 ob236
            obtain rfl : a = a236 := Option.some.inj (ha.symm.trans e236)
            have f237 : (fIC s235 a 70).toInt = ta.2.1 := (congrArg Int32.toInt (hX235.1 a 70 (Or.inr na)).1).trans wa.2.1
            refine ⟨fun h238 => ?_, fun h238 => ?_⟩
            · have g238 := (eqI (x := (fIC s235 a 70)) (y := 0) h238 : ((fIC s235 a 70) : Int32).toInt = (0 : Int32).toInt)
              have z0_ : (0 : Int32).toInt = 0 := rfl
              have hcs : csT x.1.2.1 ta tb = 0 := if_neg (fun q9 => by
                obtain ⟨q7, q8, q9⟩ := q9
                omega)
              refine hB _ _ _ _ _ (fun m239 hm239 => ?_)
              dsimp only [ucgo, ucwp, ucsC, uqC, uoC, ctC, rfd, KX3_judgeChain, KX3_judgeChain_0, KX3_judgeChain_17, KX3_judgeChain_30, KX3_judgeChain_31, KX3_judgeChain_60, KX3_judgeChain_69, KX3_judgeChain_73, KX3_judgeChain_77, KX3_judgeChain_88, KX3_judgeChain_95, KX3_judgeChain_105, KX3_judgeChain_114, KX3_judgeChain_118, KX3_judgeChain_119, KX3_judgeChain_129, KX3_judgeChain_145, lkC, s1C, s2C, dlC, kyC, Nat.beq, Nat.ble, rcd, rno, rsw, Nat.reduceAdd, Nat.reduceBEq, Nat.reduceDiv, List.drop, List.take, List.reverse, List.reverseAux, Int.toNat, Option.toList, List.append, List.cons_append, List.nil_append, zg61, zg68, zg69, zg70, zg71, zg72, zg73]
              have c240 : (Int32.ofInt 0).toInt = 0 := by decide
              refine hB _ _ _ _ _ (fun m241 hm241 => ?_)
              dsimp only [ucgo, ucwp, ucsC, uqC, uoC, ctC, rfd, KX3_judgeChain, KX3_judgeChain_0, KX3_judgeChain_17, KX3_judgeChain_30, KX3_judgeChain_31, KX3_judgeChain_60, KX3_judgeChain_69, KX3_judgeChain_73, KX3_judgeChain_77, KX3_judgeChain_88, KX3_judgeChain_95, KX3_judgeChain_105, KX3_judgeChain_114, KX3_judgeChain_118, KX3_judgeChain_119, KX3_judgeChain_129, KX3_judgeChain_145, lkC, s1C, s2C, dlC, kyC, Nat.beq, Nat.ble, rcd, rno, rsw, Nat.reduceAdd, Nat.reduceBEq, Nat.reduceDiv, List.drop, List.take, List.reverse, List.reverseAux, Int.toNat, Option.toList, List.append, List.cons_append, List.nil_append, zg61, zg68, zg69, zg70, zg71, zg72, zg73]
              intro a242 e242 ob242 fk242
              cases e242
              clear fk242 ob242
              generalize hs242 : pIC s235 p1 70 (Int32.ofInt 0) = s242
              have hX242 : XuC [68, 69, 70, 71] σ s242 p1 := XuC.pI (M := [68, 69, 70, 71]) hX235 (by decide) hs242
              have hv242 : (Int32.ofInt 0).toInt = 0 := by omega
              intro a243 e243 ob243
              cases e243
              have f244 : (fIC s242 p1 70).toInt = 0 := congrArg Int32.toInt (pI_g hs242) |>.trans hv242
              refine ⟨fun h245 => ?_, fun h245 => ?_⟩
              · have g245 := (eqI (x := (fIC s242 p1 70)) (y := 0) h245 : ((fIC s242 p1 70) : Int32).toInt = (0 : Int32).toInt)
                have z0_ : (0 : Int32).toInt = 0 := rfl
                refine hB _ _ _ _ _ (fun m246 hm246 => ?_)
                dsimp only [ucgo, ucwp, ucsC, uqC, uoC, ctC, rfd, KX3_judgeChain, KX3_judgeChain_0, KX3_judgeChain_17, KX3_judgeChain_30, KX3_judgeChain_31, KX3_judgeChain_60, KX3_judgeChain_69, KX3_judgeChain_73, KX3_judgeChain_77, KX3_judgeChain_88, KX3_judgeChain_95, KX3_judgeChain_105, KX3_judgeChain_114, KX3_judgeChain_118, KX3_judgeChain_119, KX3_judgeChain_129, KX3_judgeChain_145, lkC, s1C, s2C, dlC, kyC, Nat.beq, Nat.ble, rcd, rno, rsw, Nat.reduceAdd, Nat.reduceBEq, Nat.reduceDiv, List.drop, List.take, List.reverse, List.reverseAux, Int.toNat, Option.toList, List.append, List.cons_append, List.nil_append, zg61, zg68, zg69, zg70, zg71, zg72, zg73]
                try dsimp only [Qz_judgeChain]
                exact fun τ9 h9 => ⟨rfl, JqC.we h9 (Or.inr ⟨((if 25 ≤ x.1.2.1 ∧ x.1.2.1 ≤ 30 then 0 else wrT x.1.2.1 ta.1 tb.1), csT x.1.2.1 ta tb, if csT x.1.2.1 ta tb = 1 then cvT x.1.2.1 (wrT x.1.2.1 ta.1 tb.1) ta.2.2.1 tb.2.2.1 else t.2.2.1, wrT x.1.2.1 ta.1 tb.1), by unfold x7T; rw [if_pos hct], XuC.er (M := [68, 69, 70, 71]) hX242 (by decide) he, hX242, ⟨(congrArg Int32.toInt ((pI_o hs242 (by decide)).trans (pI_g hs235))).trans (by rw [hty]; omega), (congrArg Int32.toInt (pI_g hs242)).trans (by rw [hcs]; omega), ((pI_ol hs242).trans ((pI_ol hs235).trans ((pI_ol hs70).trans rfl))).trans (ht.2.2.trans (by rw [hcs, if_neg (show ¬ (0 : Int) = 1 by decide)]))⟩, (by rw [we_i h9]; exact (congrArg Int32.toInt ((pI_o hs242 (by decide)).trans ((pI_o hs235 (by decide)).trans (pI_g hs70)))).trans hwt)⟩)⟩
              · have g245 := (neI (x := (fIC s242 p1 70)) (y := 0) h245 : ¬ ((fIC s242 p1 70) : Int32).toInt = (0 : Int32).toInt)
                have z0_ : (0 : Int32).toInt = 0 := rfl
                exfalso
                omega
            · have g238 := (neI (x := (fIC s235 a 70)) (y := 0) h238 : ¬ ((fIC s235 a 70) : Int32).toInt = (0 : Int32).toInt)
              have z0_ : (0 : Int32).toInt = 0 := rfl
              refine hB _ _ _ _ _ (fun m247 hm247 => ?_)
              dsimp only [ucgo, ucwp, ucsC, uqC, uoC, ctC, rfd, KX3_judgeChain, KX3_judgeChain_0, KX3_judgeChain_17, KX3_judgeChain_30, KX3_judgeChain_31, KX3_judgeChain_60, KX3_judgeChain_69, KX3_judgeChain_73, KX3_judgeChain_77, KX3_judgeChain_88, KX3_judgeChain_95, KX3_judgeChain_105, KX3_judgeChain_114, KX3_judgeChain_118, KX3_judgeChain_119, KX3_judgeChain_129, KX3_judgeChain_145, lkC, s1C, s2C, dlC, kyC, Nat.beq, Nat.ble, rcd, rno, rsw, Nat.reduceAdd, Nat.reduceBEq, Nat.reduceDiv, List.drop, List.take, List.reverse, List.reverseAux, Int.toNat, Option.toList, List.append, List.cons_append, List.nil_append, zg61, zg68, zg69, zg70, zg71, zg72, zg73]
              intro a248 e248 ob248
              obtain rfl : b = a248 := Option.some.inj (hb.symm.trans e248)
              have f249 : (fIC s235 b 70).toInt = tb.2.1 := (congrArg Int32.toInt (hX235.1 b 70 (Or.inr nb)).1).trans wb.2.1
              refine ⟨fun h250 => ?_, fun h250 => ?_⟩
              · have g250 := (eqI (x := (fIC s235 b 70)) (y := 0) h250 : ((fIC s235 b 70) : Int32).toInt = (0 : Int32).toInt)
                have z0_ : (0 : Int32).toInt = 0 := rfl
                have hcs : csT x.1.2.1 ta tb = 0 := if_neg (fun q9 => by
                  obtain ⟨q7, q8, q9⟩ := q9
                  omega)
                refine hB _ _ _ _ _ (fun m251 hm251 => ?_)
                dsimp only [ucgo, ucwp, ucsC, uqC, uoC, ctC, rfd, KX3_judgeChain, KX3_judgeChain_0, KX3_judgeChain_17, KX3_judgeChain_30, KX3_judgeChain_31, KX3_judgeChain_60, KX3_judgeChain_69, KX3_judgeChain_73, KX3_judgeChain_77, KX3_judgeChain_88, KX3_judgeChain_95, KX3_judgeChain_105, KX3_judgeChain_114, KX3_judgeChain_118, KX3_judgeChain_119, KX3_judgeChain_129, KX3_judgeChain_145, lkC, s1C, s2C, dlC, kyC, Nat.beq, Nat.ble, rcd, rno, rsw, Nat.reduceAdd, Nat.reduceBEq, Nat.reduceDiv, List.drop, List.take, List.reverse, List.reverseAux, Int.toNat, Option.toList, List.append, List.cons_append, List.nil_append, zg61, zg68, zg69, zg70, zg71, zg72, zg73]
                have c252 : (Int32.ofInt 0).toInt = 0 := by decide
                refine hB _ _ _ _ _ (fun m253 hm253 => ?_)
                dsimp only [ucgo, ucwp, ucsC, uqC, uoC, ctC, rfd, KX3_judgeChain, KX3_judgeChain_0, KX3_judgeChain_17, KX3_judgeChain_30, KX3_judgeChain_31, KX3_judgeChain_60, KX3_judgeChain_69, KX3_judgeChain_73, KX3_judgeChain_77, KX3_judgeChain_88, KX3_judgeChain_95, KX3_judgeChain_105, KX3_judgeChain_114, KX3_judgeChain_118, KX3_judgeChain_119, KX3_judgeChain_129, KX3_judgeChain_145, lkC, s1C, s2C, dlC, kyC, Nat.beq, Nat.ble, rcd, rno, rsw, Nat.reduceAdd, Nat.reduceBEq, Nat.reduceDiv, List.drop, List.take, List.reverse, List.reverseAux, Int.toNat, Option.toList, List.append, List.cons_append, List.nil_append, zg61, zg68, zg69, zg70, zg71, zg72, zg73]
                intro a254 e254 ob254 fk254
                cases e254
                clear fk254 ob254
                generalize hs254 : pIC s235 p1 70 (Int32.ofInt 0) = s254
                have hX254 : XuC [68, 69, 70, 71] σ s254 p1 := XuC.pI (M := [68, 69, 70, 71]) hX235 (by decide) hs254
                have hv254 : (Int32.ofInt 0).toInt = 0 := by omega
                intro a255 e255 ob255
                cases e255
                have f256 : (fIC s254 p1 70).toInt = 0 := congrArg Int32.toInt (pI_g hs254) |>.trans hv254
                refine ⟨fun h257 => ?_, fun h257 => ?_⟩
                · have g257 := (eqI (x := (fIC s254 p1 70)) (y := 0) h257 : ((fIC s254 p1 70) : Int32).toInt = (0 : Int32).toInt)
                  have z0_ : (0 : Int32).toInt = 0 := rfl
                  refine hB _ _ _ _ _ (fun m258 hm258 => ?_)
                  dsimp only [ucgo, ucwp, ucsC, uqC, uoC, ctC, rfd, KX3_judgeChain, KX3_judgeChain_0, KX3_judgeChain_17, KX3_judgeChain_30, KX3_judgeChain_31, KX3_judgeChain_60, KX3_judgeChain_69, KX3_judgeChain_73, KX3_judgeChain_77, KX3_judgeChain_88, KX3_judgeChain_95, KX3_judgeChain_105, KX3_judgeChain_114, KX3_judgeChain_118, KX3_judgeChain_119, KX3_judgeChain_129, KX3_judgeChain_145, lkC, s1C, s2C, dlC, kyC, Nat.beq, Nat.ble, rcd, rno, rsw, Nat.reduceAdd, Nat.reduceBEq, Nat.reduceDiv, List.drop, List.take, List.reverse, List.reverseAux, Int.toNat, Option.toList, List.append, List.cons_append, List.nil_append, zg61, zg68, zg69, zg70, zg71, zg72, zg73]
                  try dsimp only [Qz_judgeChain]
                  exact fun τ9 h9 => ⟨rfl, JqC.we h9 (Or.inr ⟨((if 25 ≤ x.1.2.1 ∧ x.1.2.1 ≤ 30 then 0 else wrT x.1.2.1 ta.1 tb.1), csT x.1.2.1 ta tb, if csT x.1.2.1 ta tb = 1 then cvT x.1.2.1 (wrT x.1.2.1 ta.1 tb.1) ta.2.2.1 tb.2.2.1 else t.2.2.1, wrT x.1.2.1 ta.1 tb.1), by unfold x7T; rw [if_pos hct], XuC.er (M := [68, 69, 70, 71]) hX254 (by decide) he, hX254, ⟨(congrArg Int32.toInt ((pI_o hs254 (by decide)).trans (pI_g hs235))).trans (by rw [hty]; omega), (congrArg Int32.toInt (pI_g hs254)).trans (by rw [hcs]; omega), ((pI_ol hs254).trans ((pI_ol hs235).trans ((pI_ol hs70).trans rfl))).trans (ht.2.2.trans (by rw [hcs, if_neg (show ¬ (0 : Int) = 1 by decide)]))⟩, (by rw [we_i h9]; exact (congrArg Int32.toInt ((pI_o hs254 (by decide)).trans ((pI_o hs235 (by decide)).trans (pI_g hs70)))).trans hwt)⟩)⟩
                · have g257 := (neI (x := (fIC s254 p1 70)) (y := 0) h257 : ¬ ((fIC s254 p1 70) : Int32).toInt = (0 : Int32).toInt)
                  have z0_ : (0 : Int32).toInt = 0 := rfl
                  exfalso
                  omega
              · have g250 := (neI (x := (fIC s235 b 70)) (y := 0) h250 : ¬ ((fIC s235 b 70) : Int32).toInt = (0 : Int32).toInt)
                have z0_ : (0 : Int32).toInt = 0 := rfl
                refine hB _ _ _ _ _ (fun m259 hm259 => ?_)
                dsimp only [ucgo, ucwp, ucsC, uqC, uoC, ctC, rfd, KX3_judgeChain, KX3_judgeChain_0, KX3_judgeChain_17, KX3_judgeChain_30, KX3_judgeChain_31, KX3_judgeChain_60, KX3_judgeChain_69, KX3_judgeChain_73, KX3_judgeChain_77, KX3_judgeChain_88, KX3_judgeChain_95, KX3_judgeChain_105, KX3_judgeChain_114, KX3_judgeChain_118, KX3_judgeChain_119, KX3_judgeChain_129, KX3_judgeChain_145, lkC, s1C, s2C, dlC, kyC, Nat.beq, Nat.ble, rcd, rno, rsw, Nat.reduceAdd, Nat.reduceBEq, Nat.reduceDiv, List.drop, List.take, List.reverse, List.reverseAux, Int.toNat, Option.toList, List.append, List.cons_append, List.nil_append, zg61, zg68, zg69, zg70, zg71, zg72, zg73]
                intro a260 e260 ob260
                cases e260
                have f261 : (fIC s235 p1 61).toInt = x.1.2.1 := (congrArg Int32.toInt (hX235.1 p1 61 (Or.inl (by decide))).1).trans hx.1.2.1
                intro w262 τ262 o262 q262
                obtain ⟨r262, rfl, hr262, rfl⟩ := q262 (N, E, A, B, V, z) ⟨_, rfl⟩
                try dsimp only [Option.toList, List.cons_append, List.nil_append, s1C, s2C, dlC, kyC, Nat.beq, lkC, rcd, rno, rsw]
                refine ⟨fun h263 => ?_, fun h263 => ?_⟩
                · have g263 := (eqI (x := r262) (y := 0) h263 : (r262 : Int32).toInt = (0 : Int32).toInt)
                  have z0_ : (0 : Int32).toInt = 0 := rfl
                  have hcs : csT x.1.2.1 ta tb = 1 := if_pos ⟨by omega, by omega, fun q9 => by omega⟩
                  refine hB _ _ _ _ _ (fun m264 hm264 => ?_)
                  dsimp only [ucgo, ucwp, ucsC, uqC, uoC, ctC, rfd, KX3_judgeChain, KX3_judgeChain_0, KX3_judgeChain_17, KX3_judgeChain_30, KX3_judgeChain_31, KX3_judgeChain_60, KX3_judgeChain_69, KX3_judgeChain_73, KX3_judgeChain_77, KX3_judgeChain_88, KX3_judgeChain_95, KX3_judgeChain_105, KX3_judgeChain_114, KX3_judgeChain_118, KX3_judgeChain_119, KX3_judgeChain_129, KX3_judgeChain_145, lkC, s1C, s2C, dlC, kyC, Nat.beq, Nat.ble, rcd, rno, rsw, Nat.reduceAdd, Nat.reduceBEq, Nat.reduceDiv, List.drop, List.take, List.reverse, List.reverseAux, Int.toNat, Option.toList, List.append, List.cons_append, List.nil_append, zg61, zg68, zg69, zg70, zg71, zg72, zg73]
                  have c265 : (Int32.ofInt 1).toInt = 1 := by decide
                  refine hB _ _ _ _ _ (fun m266 hm266 => ?_)
                  dsimp only [ucgo, ucwp, ucsC, uqC, uoC, ctC, rfd, KX3_judgeChain, KX3_judgeChain_0, KX3_judgeChain_17, KX3_judgeChain_30, KX3_judgeChain_31, KX3_judgeChain_60, KX3_judgeChain_69, KX3_judgeChain_73, KX3_judgeChain_77, KX3_judgeChain_88, KX3_judgeChain_95, KX3_judgeChain_105, KX3_judgeChain_114, KX3_judgeChain_118, KX3_judgeChain_119, KX3_judgeChain_129, KX3_judgeChain_145, lkC, s1C, s2C, dlC, kyC, Nat.beq, Nat.ble, rcd, rno, rsw, Nat.reduceAdd, Nat.reduceBEq, Nat.reduceDiv, List.drop, List.take, List.reverse, List.reverseAux, Int.toNat, Option.toList, List.append, List.cons_append, List.nil_append, zg61, zg68, zg69, zg70, zg71, zg72, zg73]
                  intro a267 e267 ob267 fk267
                  cases e267
                  clear fk267 ob267
                  generalize hs267 : pIC s235 p1 70 (Int32.ofInt 1) = s267
                  have hX267 : XuC [68, 69, 70, 71] σ s267 p1 := XuC.pI (M := [68, 69, 70, 71]) hX235 (by decide) hs267
                  have hv267 : (Int32.ofInt 1).toInt = 1 := by omega
                  intro a268 e268 ob268
                  cases e268
                  have f269 : (fIC s267 p1 70).toInt = 1 := congrArg Int32.toInt (pI_g hs267) |>.trans hv267
                  refine ⟨fun h270 => ?_, fun h270 => ?_⟩
                  · have g270 := (eqI (x := (fIC s267 p1 70)) (y := 0) h270 : ((fIC s267 p1 70) : Int32).toInt = (0 : Int32).toInt)
                    have z0_ : (0 : Int32).toInt = 0 := rfl
                    exfalso
                    omega
                  · have g270 := (neI (x := (fIC s267 p1 70)) (y := 0) h270 : ¬ ((fIC s267 p1 70) : Int32).toInt = (0 : Int32).toInt)
                    have z0_ : (0 : Int32).toInt = 0 := rfl
                    refine hB _ _ _ _ _ (fun m271 hm271 => ?_)
                    dsimp only [ucgo, ucwp, ucsC, uqC, uoC, ctC, rfd, KX3_judgeChain, KX3_judgeChain_0, KX3_judgeChain_17, KX3_judgeChain_30, KX3_judgeChain_31, KX3_judgeChain_60, KX3_judgeChain_69, KX3_judgeChain_73, KX3_judgeChain_77, KX3_judgeChain_88, KX3_judgeChain_95, KX3_judgeChain_105, KX3_judgeChain_114, KX3_judgeChain_118, KX3_judgeChain_119, KX3_judgeChain_129, KX3_judgeChain_145, lkC, s1C, s2C, dlC, kyC, Nat.beq, Nat.ble, rcd, rno, rsw, Nat.reduceAdd, Nat.reduceBEq, Nat.reduceDiv, List.drop, List.take, List.reverse, List.reverseAux, Int.toNat, Option.toList, List.append, List.cons_append, List.nil_append, zg61, zg68, zg69, zg70, zg71, zg72, zg73]
                    intro a272 e272 ob272
                    obtain rfl : a = a272 := Option.some.inj (ha.symm.trans e272)
                    have fl273 : (fLC s267 a 71) = fLC σ a 71 := (hX267.1 a 71 (Or.inr na)).2.1
                    intro a274 e274 ob274
                    obtain rfl : b = a274 := Option.some.inj (hb.symm.trans e274)
                    have fl275 : (fLC s267 b 71) = fLC σ b 71 := (hX267.1 b 71 (Or.inr nb)).2.1
                    intro w276 τ276 o276 q276
                    obtain ⟨r276, rfl, hr276, rfl⟩ := q276 (N, E, A, B, V, z) ⟨_, _, _, rfl⟩
                    have hwv : r276 = cvT x.1.2.1 (wrT x.1.2.1 ta.1 tb.1) ta.2.2.1 tb.2.2.1 := by rw [hr276, show (fIC s267 p1 61).toInt = x.1.2.1 from ((congrArg Int32.toInt (hX267.1 p1 61 (Or.inl (by decide))).1).trans hx.1.2.1), show (fIC s267 p1 69).toInt = wrT x.1.2.1 ta.1 tb.1 from (congrArg Int32.toInt ((pI_o hs267 (by decide)).trans ((pI_o hs235 (by decide)).trans (pI_g hs70)))).trans hwt, show (fLC s267 a 71) = ta.2.2.1 from (fl273.trans wa.2.2), show (fLC s267 b 71) = tb.2.2.1 from (fl275.trans wb.2.2)]
                    try dsimp only [Option.toList, List.cons_append, List.nil_append, s1C, s2C, dlC, kyC, Nat.beq, lkC, rcd, rno, rsw]
                    intro a277 e277 ob277 fk277
                    cases e277
                    clear fk277 ob277
                    generalize hs277 : pLC s267 p1 71 r276 = s277
                    have hX277 : XuC [68, 69, 70, 71] σ s277 p1 := XuC.pL (M := [68, 69, 70, 71]) hX267 (by decide) hs277
                    refine hB _ _ _ _ _ (fun m278 hm278 => ?_)
                    dsimp only [ucgo, ucwp, ucsC, uqC, uoC, ctC, rfd, KX3_judgeChain, KX3_judgeChain_0, KX3_judgeChain_17, KX3_judgeChain_30, KX3_judgeChain_31, KX3_judgeChain_60, KX3_judgeChain_69, KX3_judgeChain_73, KX3_judgeChain_77, KX3_judgeChain_88, KX3_judgeChain_95, KX3_judgeChain_105, KX3_judgeChain_114, KX3_judgeChain_118, KX3_judgeChain_119, KX3_judgeChain_129, KX3_judgeChain_145, lkC, s1C, s2C, dlC, kyC, Nat.beq, Nat.ble, rcd, rno, rsw, Nat.reduceAdd, Nat.reduceBEq, Nat.reduceDiv, List.drop, List.take, List.reverse, List.reverseAux, Int.toNat, Option.toList, List.append, List.cons_append, List.nil_append, zg61, zg68, zg69, zg70, zg71, zg72, zg73]
                    try dsimp only [Qz_judgeChain]
                    exact fun τ9 h9 => ⟨rfl, JqC.we h9 (Or.inr ⟨((if 25 ≤ x.1.2.1 ∧ x.1.2.1 ≤ 30 then 0 else wrT x.1.2.1 ta.1 tb.1), csT x.1.2.1 ta tb, if csT x.1.2.1 ta tb = 1 then cvT x.1.2.1 (wrT x.1.2.1 ta.1 tb.1) ta.2.2.1 tb.2.2.1 else t.2.2.1, wrT x.1.2.1 ta.1 tb.1), by unfold x7T; rw [if_pos hct], XuC.er (M := [68, 69, 70, 71]) hX277 (by decide) he, hX277, ⟨(congrArg Int32.toInt ((pL_oi hs277).trans ((pI_o hs267 (by decide)).trans (pI_g hs235)))).trans (by rw [hty]; omega), (congrArg Int32.toInt ((pL_oi hs277).trans (pI_g hs267))).trans (by rw [hcs]; omega), (pL_g hs277).trans (by rw [hcs, if_pos rfl]; exact hwv)⟩, (by rw [we_i h9]; exact (congrArg Int32.toInt ((pL_oi hs277).trans ((pI_o hs267 (by decide)).trans ((pI_o hs235 (by decide)).trans (pI_g hs70))))).trans hwt)⟩)⟩
                · have g263 := (neI (x := r262) (y := 0) h263 : ¬ (r262 : Int32).toInt = (0 : Int32).toInt)
                  have z0_ : (0 : Int32).toInt = 0 := rfl
                  refine hB _ _ _ _ _ (fun m279 hm279 => ?_)
                  dsimp only [ucgo, ucwp, ucsC, uqC, uoC, ctC, rfd, KX3_judgeChain, KX3_judgeChain_0, KX3_judgeChain_17, KX3_judgeChain_30, KX3_judgeChain_31, KX3_judgeChain_60, KX3_judgeChain_69, KX3_judgeChain_73, KX3_judgeChain_77, KX3_judgeChain_88, KX3_judgeChain_95, KX3_judgeChain_105, KX3_judgeChain_114, KX3_judgeChain_118, KX3_judgeChain_119, KX3_judgeChain_129, KX3_judgeChain_145, lkC, s1C, s2C, dlC, kyC, Nat.beq, Nat.ble, rcd, rno, rsw, Nat.reduceAdd, Nat.reduceBEq, Nat.reduceDiv, List.drop, List.take, List.reverse, List.reverseAux, Int.toNat, Option.toList, List.append, List.cons_append, List.nil_append, zg61, zg68, zg69, zg70, zg71, zg72, zg73]
                  intro a280 e280 ob280
                  obtain rfl : b = a280 := Option.some.inj (hb.symm.trans e280)
                  have fl281 : (fLC s235 b 71) = fLC σ b 71 := (hX235.1 b 71 (Or.inr nb)).2.1
                  have lc282 : (lg_cmp (fLC s235 b 71) (Int64.ofNat ((0 : Fin 2) : Nat))).toInt = 0 → (fLC s235 b 71) = (Int64.ofNat ((0 : Fin 2) : Nat)) := lcmpC
                  have ld282 : (fLC s235 b 71) = (Int64.ofNat ((0 : Fin 2) : Nat)) → (lg_cmp (fLC s235 b 71) (Int64.ofNat ((0 : Fin 2) : Nat))).toInt = 0 := fun e => by rw [e]; exact lcmp0
                  refine ⟨fun h283 => ?_, fun h283 => ?_⟩
                  · have g283 := (eqI (x := (lg_cmp (fLC s235 b 71) (Int64.ofNat ((0 : Fin 2) : Nat)))) (y := 0) h283 : ((lg_cmp (fLC s235 b 71) (Int64.ofNat ((0 : Fin 2) : Nat))) : Int32).toInt = (0 : Int32).toInt)
                    have z0_ : (0 : Int32).toInt = 0 := rfl
                    have hcs : csT x.1.2.1 ta tb = 0 := if_neg (fun q9 => by
                      obtain ⟨q7, q8, q9⟩ := q9
                      exact q9 ⟨by omega, ((fl281.trans wb.2.2).symm.trans (lc282 (by omega)))⟩)
                    refine hB _ _ _ _ _ (fun m284 hm284 => ?_)
                    dsimp only [ucgo, ucwp, ucsC, uqC, uoC, ctC, rfd, KX3_judgeChain, KX3_judgeChain_0, KX3_judgeChain_17, KX3_judgeChain_30, KX3_judgeChain_31, KX3_judgeChain_60, KX3_judgeChain_69, KX3_judgeChain_73, KX3_judgeChain_77, KX3_judgeChain_88, KX3_judgeChain_95, KX3_judgeChain_105, KX3_judgeChain_114, KX3_judgeChain_118, KX3_judgeChain_119, KX3_judgeChain_129, KX3_judgeChain_145, lkC, s1C, s2C, dlC, kyC, Nat.beq, Nat.ble, rcd, rno, rsw, Nat.reduceAdd, Nat.reduceBEq, Nat.reduceDiv, List.drop, List.take, List.reverse, List.reverseAux, Int.toNat, Option.toList, List.append, List.cons_append, List.nil_append, zg61, zg68, zg69, zg70, zg71, zg72, zg73]
                    have c285 : (Int32.ofInt 0).toInt = 0 := by decide
                    refine hB _ _ _ _ _ (fun m286 hm286 => ?_)
                    dsimp only [ucgo, ucwp, ucsC, uqC, uoC, ctC, rfd, KX3_judgeChain, KX3_judgeChain_0, KX3_judgeChain_17, KX3_judgeChain_30, KX3_judgeChain_31, KX3_judgeChain_60, KX3_judgeChain_69, KX3_judgeChain_73, KX3_judgeChain_77, KX3_judgeChain_88, KX3_judgeChain_95, KX3_judgeChain_105, KX3_judgeChain_114, KX3_judgeChain_118, KX3_judgeChain_119, KX3_judgeChain_129, KX3_judgeChain_145, lkC, s1C, s2C, dlC, kyC, Nat.beq, Nat.ble, rcd, rno, rsw, Nat.reduceAdd, Nat.reduceBEq, Nat.reduceDiv, List.drop, List.take, List.reverse, List.reverseAux, Int.toNat, Option.toList, List.append, List.cons_append, List.nil_append, zg61, zg68, zg69, zg70, zg71, zg72, zg73]
                    intro a287 e287 ob287 fk287
                    cases e287
                    clear fk287 ob287
                    generalize hs287 : pIC s235 p1 70 (Int32.ofInt 0) = s287
                    have hX287 : XuC [68, 69, 70, 71] σ s287 p1 := XuC.pI (M := [68, 69, 70, 71]) hX235 (by decide) hs287
                    have hv287 : (Int32.ofInt 0).toInt = 0 := by omega
                    intro a288 e288 ob288
                    cases e288
                    have f289 : (fIC s287 p1 70).toInt = 0 := congrArg Int32.toInt (pI_g hs287) |>.trans hv287
                    refine ⟨fun h290 => ?_, fun h290 => ?_⟩
                    · have g290 := (eqI (x := (fIC s287 p1 70)) (y := 0) h290 : ((fIC s287 p1 70) : Int32).toInt = (0 : Int32).toInt)
                      have z0_ : (0 : Int32).toInt = 0 := rfl
                      refine hB _ _ _ _ _ (fun m291 hm291 => ?_)
                      dsimp only [ucgo, ucwp, ucsC, uqC, uoC, ctC, rfd, KX3_judgeChain, KX3_judgeChain_0, KX3_judgeChain_17, KX3_judgeChain_30, KX3_judgeChain_31, KX3_judgeChain_60, KX3_judgeChain_69, KX3_judgeChain_73, KX3_judgeChain_77, KX3_judgeChain_88, KX3_judgeChain_95, KX3_judgeChain_105, KX3_judgeChain_114, KX3_judgeChain_118, KX3_judgeChain_119, KX3_judgeChain_129, KX3_judgeChain_145, lkC, s1C, s2C, dlC, kyC, Nat.beq, Nat.ble, rcd, rno, rsw, Nat.reduceAdd, Nat.reduceBEq, Nat.reduceDiv, List.drop, List.take, List.reverse, List.reverseAux, Int.toNat, Option.toList, List.append, List.cons_append, List.nil_append, zg61, zg68, zg69, zg70, zg71, zg72, zg73]
                      try dsimp only [Qz_judgeChain]
                      exact fun τ9 h9 => ⟨rfl, JqC.we h9 (Or.inr ⟨((if 25 ≤ x.1.2.1 ∧ x.1.2.1 ≤ 30 then 0 else wrT x.1.2.1 ta.1 tb.1), csT x.1.2.1 ta tb, if csT x.1.2.1 ta tb = 1 then cvT x.1.2.1 (wrT x.1.2.1 ta.1 tb.1) ta.2.2.1 tb.2.2.1 else t.2.2.1, wrT x.1.2.1 ta.1 tb.1), by unfold x7T; rw [if_pos hct], XuC.er (M := [68, 69, 70, 71]) hX287 (by decide) he, hX287, ⟨(congrArg Int32.toInt ((pI_o hs287 (by decide)).trans (pI_g hs235))).trans (by rw [hty]; omega), (congrArg Int32.toInt (pI_g hs287)).trans (by rw [hcs]; omega), ((pI_ol hs287).trans ((pI_ol hs235).trans ((pI_ol hs70).trans rfl))).trans (ht.2.2.trans (by rw [hcs, if_neg (show ¬ (0 : Int) = 1 by decide)]))⟩, (by rw [we_i h9]; exact (congrArg Int32.toInt ((pI_o hs287 (by decide)).trans ((pI_o hs235 (by decide)).trans (pI_g hs70)))).trans hwt)⟩)⟩
                    · have g290 := (neI (x := (fIC s287 p1 70)) (y := 0) h290 : ¬ ((fIC s287 p1 70) : Int32).toInt = (0 : Int32).toInt)
                      have z0_ : (0 : Int32).toInt = 0 := rfl
                      exfalso
                      omega
                  · have g283 := (neI (x := (lg_cmp (fLC s235 b 71) (Int64.ofNat ((0 : Fin 2) : Nat)))) (y := 0) h283 : ¬ ((lg_cmp (fLC s235 b 71) (Int64.ofNat ((0 : Fin 2) : Nat))) : Int32).toInt = (0 : Int32).toInt)
                    have z0_ : (0 : Int32).toInt = 0 := rfl
                    have hcs : csT x.1.2.1 ta tb = 1 := if_pos ⟨by omega, by omega, fun q9 => absurd (ld282 ((fl281.trans wb.2.2).trans q9.2)) (by omega)⟩
                    refine hB _ _ _ _ _ (fun m292 hm292 => ?_)
                    dsimp only [ucgo, ucwp, ucsC, uqC, uoC, ctC, rfd, KX3_judgeChain, KX3_judgeChain_0, KX3_judgeChain_17, KX3_judgeChain_30, KX3_judgeChain_31, KX3_judgeChain_60, KX3_judgeChain_69, KX3_judgeChain_73, KX3_judgeChain_77, KX3_judgeChain_88, KX3_judgeChain_95, KX3_judgeChain_105, KX3_judgeChain_114, KX3_judgeChain_118, KX3_judgeChain_119, KX3_judgeChain_129, KX3_judgeChain_145, lkC, s1C, s2C, dlC, kyC, Nat.beq, Nat.ble, rcd, rno, rsw, Nat.reduceAdd, Nat.reduceBEq, Nat.reduceDiv, List.drop, List.take, List.reverse, List.reverseAux, Int.toNat, Option.toList, List.append, List.cons_append, List.nil_append, zg61, zg68, zg69, zg70, zg71, zg72, zg73]
                    have c293 : (Int32.ofInt 1).toInt = 1 := by decide
                    refine hB _ _ _ _ _ (fun m294 hm294 => ?_)
                    dsimp only [ucgo, ucwp, ucsC, uqC, uoC, ctC, rfd, KX3_judgeChain, KX3_judgeChain_0, KX3_judgeChain_17, KX3_judgeChain_30, KX3_judgeChain_31, KX3_judgeChain_60, KX3_judgeChain_69, KX3_judgeChain_73, KX3_judgeChain_77, KX3_judgeChain_88, KX3_judgeChain_95, KX3_judgeChain_105, KX3_judgeChain_114, KX3_judgeChain_118, KX3_judgeChain_119, KX3_judgeChain_129, KX3_judgeChain_145, lkC, s1C, s2C, dlC, kyC, Nat.beq, Nat.ble, rcd, rno, rsw, Nat.reduceAdd, Nat.reduceBEq, Nat.reduceDiv, List.drop, List.take, List.reverse, List.reverseAux, Int.toNat, Option.toList, List.append, List.cons_append, List.nil_append, zg61, zg68, zg69, zg70, zg71, zg72, zg73]
                    intro a295 e295 ob295 fk295
                    cases e295
                    clear fk295 ob295
                    generalize hs295 : pIC s235 p1 70 (Int32.ofInt 1) = s295
                    have hX295 : XuC [68, 69, 70, 71] σ s295 p1 := XuC.pI (M := [68, 69, 70, 71]) hX235 (by decide) hs295
                    have hv295 : (Int32.ofInt 1).toInt = 1 := by omega
                    intro a296 e296 ob296
                    cases e296
                    have f297 : (fIC s295 p1 70).toInt = 1 := congrArg Int32.toInt (pI_g hs295) |>.trans hv295
                    refine ⟨fun h298 => ?_, fun h298 => ?_⟩
                    · have g298 := (eqI (x := (fIC s295 p1 70)) (y := 0) h298 : ((fIC s295 p1 70) : Int32).toInt = (0 : Int32).toInt)
                      have z0_ : (0 : Int32).toInt = 0 := rfl
                      exfalso
                      omega
                    · have g298 := (neI (x := (fIC s295 p1 70)) (y := 0) h298 : ¬ ((fIC s295 p1 70) : Int32).toInt = (0 : Int32).toInt)
                      have z0_ : (0 : Int32).toInt = 0 := rfl
                      refine hB _ _ _ _ _ (fun m299 hm299 => ?_)
                      dsimp only [ucgo, ucwp, ucsC, uqC, uoC, ctC, rfd, KX3_judgeChain, KX3_judgeChain_0, KX3_judgeChain_17, KX3_judgeChain_30, KX3_judgeChain_31, KX3_judgeChain_60, KX3_judgeChain_69, KX3_judgeChain_73, KX3_judgeChain_77, KX3_judgeChain_88, KX3_judgeChain_95, KX3_judgeChain_105, KX3_judgeChain_114, KX3_judgeChain_118, KX3_judgeChain_119, KX3_judgeChain_129, KX3_judgeChain_145, lkC, s1C, s2C, dlC, kyC, Nat.beq, Nat.ble, rcd, rno, rsw, Nat.reduceAdd, Nat.reduceBEq, Nat.reduceDiv, List.drop, List.take, List.reverse, List.reverseAux, Int.toNat, Option.toList, List.append, List.cons_append, List.nil_append, zg61, zg68, zg69, zg70, zg71, zg72, zg73]
                      intro a300 e300 ob300
                      obtain rfl : a = a300 := Option.some.inj (ha.symm.trans e300)
                      have fl301 : (fLC s295 a 71) = fLC σ a 71 := (hX295.1 a 71 (Or.inr na)).2.1
                      intro a302 e302 ob302
                      obtain rfl : b = a302 := Option.some.inj (hb.symm.trans e302)
                      have fl303 : (fLC s295 b 71) = fLC σ b 71 := (hX295.1 b 71 (Or.inr nb)).2.1
                      intro w304 τ304 o304 q304
                      obtain ⟨r304, rfl, hr304, rfl⟩ := q304 (N, E, A, B, V, z) ⟨_, _, _, rfl⟩
                      have hwv : r304 = cvT x.1.2.1 (wrT x.1.2.1 ta.1 tb.1) ta.2.2.1 tb.2.2.1 := by rw [hr304, show (fIC s295 p1 61).toInt = x.1.2.1 from ((congrArg Int32.toInt (hX295.1 p1 61 (Or.inl (by decide))).1).trans hx.1.2.1), show (fIC s295 p1 69).toInt = wrT x.1.2.1 ta.1 tb.1 from (congrArg Int32.toInt ((pI_o hs295 (by decide)).trans ((pI_o hs235 (by decide)).trans (pI_g hs70)))).trans hwt, show (fLC s295 a 71) = ta.2.2.1 from (fl301.trans wa.2.2), show (fLC s295 b 71) = tb.2.2.1 from (fl303.trans wb.2.2)]
                      try dsimp only [Option.toList, List.cons_append, List.nil_append, s1C, s2C, dlC, kyC, Nat.beq, lkC, rcd, rno, rsw]
                      intro a305 e305 ob305 fk305
                      cases e305
                      clear fk305 ob305
                      generalize hs305 : pLC s295 p1 71 r304 = s305
                      have hX305 : XuC [68, 69, 70, 71] σ s305 p1 := XuC.pL (M := [68, 69, 70, 71]) hX295 (by decide) hs305
                      refine hB _ _ _ _ _ (fun m306 hm306 => ?_)
                      dsimp only [ucgo, ucwp, ucsC, uqC, uoC, ctC, rfd, KX3_judgeChain, KX3_judgeChain_0, KX3_judgeChain_17, KX3_judgeChain_30, KX3_judgeChain_31, KX3_judgeChain_60, KX3_judgeChain_69, KX3_judgeChain_73, KX3_judgeChain_77, KX3_judgeChain_88, KX3_judgeChain_95, KX3_judgeChain_105, KX3_judgeChain_114, KX3_judgeChain_118, KX3_judgeChain_119, KX3_judgeChain_129, KX3_judgeChain_145, lkC, s1C, s2C, dlC, kyC, Nat.beq, Nat.ble, rcd, rno, rsw, Nat.reduceAdd, Nat.reduceBEq, Nat.reduceDiv, List.drop, List.take, List.reverse, List.reverseAux, Int.toNat, Option.toList, List.append, List.cons_append, List.nil_append, zg61, zg68, zg69, zg70, zg71, zg72, zg73]
                      try dsimp only [Qz_judgeChain]
                      exact fun τ9 h9 => ⟨rfl, JqC.we h9 (Or.inr ⟨((if 25 ≤ x.1.2.1 ∧ x.1.2.1 ≤ 30 then 0 else wrT x.1.2.1 ta.1 tb.1), csT x.1.2.1 ta tb, if csT x.1.2.1 ta tb = 1 then cvT x.1.2.1 (wrT x.1.2.1 ta.1 tb.1) ta.2.2.1 tb.2.2.1 else t.2.2.1, wrT x.1.2.1 ta.1 tb.1), by unfold x7T; rw [if_pos hct], XuC.er (M := [68, 69, 70, 71]) hX305 (by decide) he, hX305, ⟨(congrArg Int32.toInt ((pL_oi hs305).trans ((pI_o hs295 (by decide)).trans (pI_g hs235)))).trans (by rw [hty]; omega), (congrArg Int32.toInt ((pL_oi hs305).trans (pI_g hs295))).trans (by rw [hcs]; omega), (pL_g hs305).trans (by rw [hcs, if_pos rfl]; exact hwv)⟩, (by rw [we_i h9]; exact (congrArg Int32.toInt ((pL_oi hs305).trans ((pI_o hs295 (by decide)).trans ((pI_o hs235 (by decide)).trans (pI_g hs70))))).trans hwt)⟩)⟩
      · have g61 := (eqI (x := r60) (y := 0) h61 : (r60 : Int32).toInt = (0 : Int32).toInt)
        have z0_ : (0 : Int32).toInt = 0 := rfl
        exfalso
        omega
    · rw [hx.1.2.1, wb.1, show ((fIC σ a 68) : Int32).toInt = ta.1 by omega] at hc60
      have hcf := hc60
      have hP60 : PjC E τ60 := hP.fr o60.2 rfl rfl
      try dsimp only [Option.toList, List.cons_append, List.nil_append, s1C, s2C, dlC, kyC, Nat.beq, lkC, rcd, rno, rsw]
      refine ⟨fun h307 => ?_, fun h307 => ?_⟩
      · have g307 := (neI (x := r60) (y := 0) h307 : ¬ (r60 : Int32).toInt = (0 : Int32).toInt)
        have z0_ : (0 : Int32).toInt = 0 := rfl
        exfalso
        omega
      · have g307 := (eqI (x := r60) (y := 0) h307 : (r60 : Int32).toInt = (0 : Int32).toInt)
        have z0_ : (0 : Int32).toInt = 0 := rfl
        refine hB _ _ _ _ _ (fun m308 hm308 => ?_)
        dsimp only [ucgo, ucwp, ucsC, uqC, uoC, ctC, rfd, KX3_judgeChain, KX3_judgeChain_0, KX3_judgeChain_17, KX3_judgeChain_30, KX3_judgeChain_31, KX3_judgeChain_60, KX3_judgeChain_69, KX3_judgeChain_73, KX3_judgeChain_77, KX3_judgeChain_88, KX3_judgeChain_95, KX3_judgeChain_105, KX3_judgeChain_114, KX3_judgeChain_118, KX3_judgeChain_119, KX3_judgeChain_129, KX3_judgeChain_145, lkC, s1C, s2C, dlC, kyC, Nat.beq, Nat.ble, rcd, rno, rsw, Nat.reduceAdd, Nat.reduceBEq, Nat.reduceDiv, List.drop, List.take, List.reverse, List.reverseAux, Int.toNat, Option.toList, List.append, List.cons_append, List.nil_append, zg61, zg68, zg69, zg70, zg71, zg72, zg73]
        try dsimp only [Qz_judgeChain]
        exact fun τ9 h9 => ⟨rfl, JqC.we h9 (Or.inl ⟨by unfold x7T; rw [if_neg hcf], qb60⟩)⟩
theorem wz_judgeChain : ∀ (L : Nat) (As : List AvC) (σ : CsC) (w : Option AvC) (τ : CsC), EvF L 69 As σ w τ → Uz_judgeChain As σ w τ := by
  intro L
  cases L with
  | zero => exact fun _ _ _ _ h => h.elim
  | succ L => exact fun As σ w τ h y hy => EvF.us (cs := [52, 63, 68, 227, 70]) (pz_judgeChain y) rfl (List.forall_mem_cons.2 ⟨wz_isFaulty L, List.forall_mem_cons.2 ⟨wz_areTaken L, List.forall_mem_cons.2 ⟨wz_workType L, List.forall_mem_cons.2 ⟨wz_isDivision L, List.forall_mem_cons.2 ⟨wz_workedChain L, fun _ h => absurd h List.not_mem_nil⟩⟩⟩⟩⟩) h hy
abbrev Pz_judgeChoice : ((Int → Int) × (Nat → Nat) × (Nat → Nat) × (Nat → Nat) × (Nat → Nat) × ZS × XrZ × TvT × Nat × TvT × Nat × TvT × Nat × TvT) → CpC := fun y As σ => match y with
  | (N, E, A, B, V, z, x, t, a, ta, b, tb, c, tc) => ∃ (p1 : Nat), As = [.inr (.inr (some (E 3))), .inr (.inr (some p1))] ∧ (PjC E σ) ∧ (fIC σ (E 1) 217 = 0) ∧ (p1 < cnC σ) ∧ (XqC σ x p1) ∧ (TwC σ p1 t) ∧ (x.1.1 = 8) ∧ (fRC σ p1 72 = some a) ∧ (a ≠ p1) ∧ (TwC σ a ta) ∧ (¬ ta.1 = -1) ∧ (fRC σ p1 73 = some b) ∧ (b ≠ p1) ∧ (TwC σ b tb) ∧ (¬ tb.1 = -1) ∧ (fRC σ p1 74 = some c) ∧ (c ≠ p1) ∧ (TwC σ c tc) ∧ (¬ tc.1 = -1)
abbrev Qz_judgeChoice : ((Int → Int) × (Nat → Nat) × (Nat → Nat) × (Nat → Nat) × (Nat → Nat) × ZS × XrZ × TvT × Nat × TvT × Nat × TvT × Nat × TvT) → CqC := fun y As σ w τ => match y, As with
  | (N, E, A, B, V, z, x, t, a, ta, b, tb, c, tc), [_, .inr (.inr (some p1))] => w = none ∧ JqC E [68, 70, 71] σ τ p1 (x8T ta tb tc t) (fun r => r.2.2.2 = t.2.2.2)
  | _, _ => True
abbrev Uz_judgeChoice : CqC := fun As σ w τ => ∀ y, Pz_judgeChoice y As σ → Qz_judgeChoice y As σ w τ
set_option maxHeartbeats 4000000 in
theorem pz_judgeChoice (y : (Int → Int) × (Nat → Nat) × (Nat → Nat) × (Nat → Nat) × (Nat → Nat) × ZS × XrZ × TvT × Nat × TvT × Nat × TvT × Nat × TvT) : PbC KX3_judgeChoice [(52, TrP, EqC 52), (62, TrP, EqC 62), (67, TrP, EqC 67), (72, TrP, EqC 72)] [(52, Uz_isFaulty), (62, Uz_isWanted), (67, Uz_isRightTaken), (72, Uz_choiceType)] (fun As σ => Pz_judgeChoice y As σ ∧ cnC σ ≤ 1000000 ∧ ∃ w τ, uqC quL 71 As σ w τ) (Qz_judgeChoice y) := by
  obtain ⟨N, E, A, B, V, z, x, t, a, ta, b, tb, c, tc⟩ := y
  rintro As σ ⟨⟨p1, rfl, hP, he, hlt, hx, ht, hk, ha, na, wa, fa, hb, nb, wb, fb, hc, nc, wc, fc⟩, hcn, _, _, hQ⟩ K hB hW n_
  have h9a : (fIC σ a 68).toInt = ta.1 := wa.1
  have h9b : (fIC σ b 68).toInt = tb.1 := wb.1
  have h9c : (fIC σ c 68).toInt = tc.1 := wc.1
  change K n_ 0 [(0, .inr (.inr (some (E 3)))), (1, .inr (.inr (some p1)))] [] σ
  refine hB _ _ _ _ _ (fun m51 hm51 => ?_)
  dsimp only [ucgo, ucwp, ucsC, uqC, uoC, ctC, rfd, KX3_judgeChoice, KX3_judgeChoice_0, KX3_judgeChoice_10, KX3_judgeChoice_21, KX3_judgeChoice_25, KX3_judgeChoice_26, KX3_judgeChoice_39, KX3_judgeChoice_49, KX3_judgeChoice_61, KX3_judgeChoice_65, KX3_judgeChoice_66, KX3_judgeChoice_79, KX3_judgeChoice_89, KX3_judgeChoice_122, KX3_judgeChoice_126, KX3_judgeChoice_127, KX3_judgeChoice_132, KX3_judgeChoice_133, KX3_judgeChoice_159, KX3_judgeChoice_169, KX3_judgeChoice_179, KX3_judgeChoice_183, KX3_judgeChoice_184, KX3_judgeChoice_200, KX3_judgeChoice_210, KX3_judgeChoice_217, lkC, s1C, s2C, dlC, kyC, Nat.beq, Nat.ble, rcd, rno, rsw, Nat.reduceAdd, Nat.reduceBEq, Nat.reduceDiv, List.drop, List.take, List.reverse, List.reverseAux, Int.toNat, Option.toList, List.append, List.cons_append, List.nil_append, zg62, zg68, zg70, zg71, zg72, zg73, zg74]
  intro a52 e52 ob52
  cases e52
  intro w53 τ53 o53 q53
  obtain ⟨r53, rfl, hr53, rfl⟩ := q53 (N, E, A, B, V, z) ⟨_, rfl⟩
  have hr53 : (r53.toInt = 1 ∧ (fIC σ a 68).toInt = -1) ∨ (r53.toInt = 0 ∧ ¬ (fIC σ a 68).toInt = -1) := by
    rcases hr53 with q9 | q9
    · exact Or.inl ⟨q9.1, q9.2 _ ha⟩
    · exact Or.inr ⟨q9.1, fun q8 => q9.2 (fun a9 q7 => by cases ha.symm.trans q7; exact q8)⟩
  try dsimp only [Option.toList, List.cons_append, List.nil_append, s1C, s2C, dlC, kyC, Nat.beq, lkC, rcd, rno, rsw]
  refine ⟨fun h54 => ?_, fun h54 => ?_⟩
  · have g54 := (neI (x := r53) (y := 0) h54 : ¬ (r53 : Int32).toInt = (0 : Int32).toInt)
    have z0_ : (0 : Int32).toInt = 0 := rfl
    refine hB _ _ _ _ _ (fun m55 hm55 => ?_)
    dsimp only [ucgo, ucwp, ucsC, uqC, uoC, ctC, rfd, KX3_judgeChoice, KX3_judgeChoice_0, KX3_judgeChoice_10, KX3_judgeChoice_21, KX3_judgeChoice_25, KX3_judgeChoice_26, KX3_judgeChoice_39, KX3_judgeChoice_49, KX3_judgeChoice_61, KX3_judgeChoice_65, KX3_judgeChoice_66, KX3_judgeChoice_79, KX3_judgeChoice_89, KX3_judgeChoice_122, KX3_judgeChoice_126, KX3_judgeChoice_127, KX3_judgeChoice_132, KX3_judgeChoice_133, KX3_judgeChoice_159, KX3_judgeChoice_169, KX3_judgeChoice_179, KX3_judgeChoice_183, KX3_judgeChoice_184, KX3_judgeChoice_200, KX3_judgeChoice_210, KX3_judgeChoice_217, lkC, s1C, s2C, dlC, kyC, Nat.beq, Nat.ble, rcd, rno, rsw, Nat.reduceAdd, Nat.reduceBEq, Nat.reduceDiv, List.drop, List.take, List.reverse, List.reverseAux, Int.toNat, Option.toList, List.append, List.cons_append, List.nil_append, zg62, zg68, zg70, zg71, zg72, zg73, zg74]
    have c56 : (Int32.ofInt 0).toInt = 0 := by decide
    refine hB _ _ _ _ _ (fun m57 hm57 => ?_)
    dsimp only [ucgo, ucwp, ucsC, uqC, uoC, ctC, rfd, KX3_judgeChoice, KX3_judgeChoice_0, KX3_judgeChoice_10, KX3_judgeChoice_21, KX3_judgeChoice_25, KX3_judgeChoice_26, KX3_judgeChoice_39, KX3_judgeChoice_49, KX3_judgeChoice_61, KX3_judgeChoice_65, KX3_judgeChoice_66, KX3_judgeChoice_79, KX3_judgeChoice_89, KX3_judgeChoice_122, KX3_judgeChoice_126, KX3_judgeChoice_127, KX3_judgeChoice_132, KX3_judgeChoice_133, KX3_judgeChoice_159, KX3_judgeChoice_169, KX3_judgeChoice_179, KX3_judgeChoice_183, KX3_judgeChoice_184, KX3_judgeChoice_200, KX3_judgeChoice_210, KX3_judgeChoice_217, lkC, s1C, s2C, dlC, kyC, Nat.beq, Nat.ble, rcd, rno, rsw, Nat.reduceAdd, Nat.reduceBEq, Nat.reduceDiv, List.drop, List.take, List.reverse, List.reverseAux, Int.toNat, Option.toList, List.append, List.cons_append, List.nil_append, zg62, zg68, zg70, zg71, zg72, zg73, zg74]
    refine ⟨fun h58 => ?_, fun h58 => ?_⟩
    · have g58 := (neI (x := (Int32.ofInt 0)) (y := 0) h58 : ¬ ((Int32.ofInt 0) : Int32).toInt = (0 : Int32).toInt)
      have z0_ : (0 : Int32).toInt = 0 := rfl
      exfalso
      omega
    · have g58 := (eqI (x := (Int32.ofInt 0)) (y := 0) h58 : ((Int32.ofInt 0) : Int32).toInt = (0 : Int32).toInt)
      have z0_ : (0 : Int32).toInt = 0 := rfl
      refine hB _ _ _ _ _ (fun m59 hm59 => ?_)
      dsimp only [ucgo, ucwp, ucsC, uqC, uoC, ctC, rfd, KX3_judgeChoice, KX3_judgeChoice_0, KX3_judgeChoice_10, KX3_judgeChoice_21, KX3_judgeChoice_25, KX3_judgeChoice_26, KX3_judgeChoice_39, KX3_judgeChoice_49, KX3_judgeChoice_61, KX3_judgeChoice_65, KX3_judgeChoice_66, KX3_judgeChoice_79, KX3_judgeChoice_89, KX3_judgeChoice_122, KX3_judgeChoice_126, KX3_judgeChoice_127, KX3_judgeChoice_132, KX3_judgeChoice_133, KX3_judgeChoice_159, KX3_judgeChoice_169, KX3_judgeChoice_179, KX3_judgeChoice_183, KX3_judgeChoice_184, KX3_judgeChoice_200, KX3_judgeChoice_210, KX3_judgeChoice_217, lkC, s1C, s2C, dlC, kyC, Nat.beq, Nat.ble, rcd, rno, rsw, Nat.reduceAdd, Nat.reduceBEq, Nat.reduceDiv, List.drop, List.take, List.reverse, List.reverseAux, Int.toNat, Option.toList, List.append, List.cons_append, List.nil_append, zg62, zg68, zg70, zg71, zg72, zg73, zg74]
      try dsimp only [Qz_judgeChoice]
      exfalso
      omega
  · have g54 := (eqI (x := r53) (y := 0) h54 : (r53 : Int32).toInt = (0 : Int32).toInt)
    have z0_ : (0 : Int32).toInt = 0 := rfl
    refine hB _ _ _ _ _ (fun m60 hm60 => ?_)
    dsimp only [ucgo, ucwp, ucsC, uqC, uoC, ctC, rfd, KX3_judgeChoice, KX3_judgeChoice_0, KX3_judgeChoice_10, KX3_judgeChoice_21, KX3_judgeChoice_25, KX3_judgeChoice_26, KX3_judgeChoice_39, KX3_judgeChoice_49, KX3_judgeChoice_61, KX3_judgeChoice_65, KX3_judgeChoice_66, KX3_judgeChoice_79, KX3_judgeChoice_89, KX3_judgeChoice_122, KX3_judgeChoice_126, KX3_judgeChoice_127, KX3_judgeChoice_132, KX3_judgeChoice_133, KX3_judgeChoice_159, KX3_judgeChoice_169, KX3_judgeChoice_179, KX3_judgeChoice_183, KX3_judgeChoice_184, KX3_judgeChoice_200, KX3_judgeChoice_210, KX3_judgeChoice_217, lkC, s1C, s2C, dlC, kyC, Nat.beq, Nat.ble, rcd, rno, rsw, Nat.reduceAdd, Nat.reduceBEq, Nat.reduceDiv, List.drop, List.take, List.reverse, List.reverseAux, Int.toNat, Option.toList, List.append, List.cons_append, List.nil_append, zg62, zg68, zg70, zg71, zg72, zg73, zg74]
    intro a61 e61 ob61
    cases e61
    intro a62 e62 ob62
    obtain rfl : a = a62 := Option.some.inj (ha.symm.trans e62)
    have f63 : (fIC σ a 68).toInt = ta.1 := wa.1
    refine ⟨fun h64 => ?_, fun h64 => ?_⟩
    · have g64 := (neI (x := (fIC σ a 68)) (y := 0) h64 : ¬ ((fIC σ a 68) : Int32).toInt = (0 : Int32).toInt)
      have z0_ : (0 : Int32).toInt = 0 := rfl
      refine hB _ _ _ _ _ (fun m65 hm65 => ?_)
      dsimp only [ucgo, ucwp, ucsC, uqC, uoC, ctC, rfd, KX3_judgeChoice, KX3_judgeChoice_0, KX3_judgeChoice_10, KX3_judgeChoice_21, KX3_judgeChoice_25, KX3_judgeChoice_26, KX3_judgeChoice_39, KX3_judgeChoice_49, KX3_judgeChoice_61, KX3_judgeChoice_65, KX3_judgeChoice_66, KX3_judgeChoice_79, KX3_judgeChoice_89, KX3_judgeChoice_122, KX3_judgeChoice_126, KX3_judgeChoice_127, KX3_judgeChoice_132, KX3_judgeChoice_133, KX3_judgeChoice_159, KX3_judgeChoice_169, KX3_judgeChoice_179, KX3_judgeChoice_183, KX3_judgeChoice_184, KX3_judgeChoice_200, KX3_judgeChoice_210, KX3_judgeChoice_217, lkC, s1C, s2C, dlC, kyC, Nat.beq, Nat.ble, rcd, rno, rsw, Nat.reduceAdd, Nat.reduceBEq, Nat.reduceDiv, List.drop, List.take, List.reverse, List.reverseAux, Int.toNat, Option.toList, List.append, List.cons_append, List.nil_append, zg62, zg68, zg70, zg71, zg72, zg73, zg74]
      have c66 : (Int32.ofInt 0).toInt = 0 := by decide
      refine hB _ _ _ _ _ (fun m67 hm67 => ?_)
      dsimp only [ucgo, ucwp, ucsC, uqC, uoC, ctC, rfd, KX3_judgeChoice, KX3_judgeChoice_0, KX3_judgeChoice_10, KX3_judgeChoice_21, KX3_judgeChoice_25, KX3_judgeChoice_26, KX3_judgeChoice_39, KX3_judgeChoice_49, KX3_judgeChoice_61, KX3_judgeChoice_65, KX3_judgeChoice_66, KX3_judgeChoice_79, KX3_judgeChoice_89, KX3_judgeChoice_122, KX3_judgeChoice_126, KX3_judgeChoice_127, KX3_judgeChoice_132, KX3_judgeChoice_133, KX3_judgeChoice_159, KX3_judgeChoice_169, KX3_judgeChoice_179, KX3_judgeChoice_183, KX3_judgeChoice_184, KX3_judgeChoice_200, KX3_judgeChoice_210, KX3_judgeChoice_217, lkC, s1C, s2C, dlC, kyC, Nat.beq, Nat.ble, rcd, rno, rsw, Nat.reduceAdd, Nat.reduceBEq, Nat.reduceDiv, List.drop, List.take, List.reverse, List.reverseAux, Int.toNat, Option.toList, List.append, List.cons_append, List.nil_append, zg62, zg68, zg70, zg71, zg72, zg73, zg74]
      intro a68 e68 ob68
      cases e68
      intro a69 e69 ob69
      obtain rfl : a = a69 := Option.some.inj (ha.symm.trans e69)
      intro w71 τ71 o71 q71
      obtain ⟨rfl, qq71⟩ := q71 (N, E, A, B, V, z) ⟨_, _, rfl, hP⟩
      rcases qq71 with ⟨qa71, rfl⟩ | ⟨qa71, qb71⟩
      · have qc71 := qa71
        exfalso
        omega
      · have hP71 : PjC E τ71 := hP.fr o71.2 rfl rfl
        try dsimp only [Option.toList, List.cons_append, List.nil_append, s1C, s2C, dlC, kyC, Nat.beq, lkC, rcd, rno, rsw]
        refine ⟨fun h72 => ?_, fun h72 => ?_⟩
        · have g72 := (eqI (x := (Int32.ofInt 0)) (y := 0) h72 : ((Int32.ofInt 0) : Int32).toInt = (0 : Int32).toInt)
          have z0_ : (0 : Int32).toInt = 0 := rfl
          refine hB _ _ _ _ _ (fun m73 hm73 => ?_)
          dsimp only [ucgo, ucwp, ucsC, uqC, uoC, ctC, rfd, KX3_judgeChoice, KX3_judgeChoice_0, KX3_judgeChoice_10, KX3_judgeChoice_21, KX3_judgeChoice_25, KX3_judgeChoice_26, KX3_judgeChoice_39, KX3_judgeChoice_49, KX3_judgeChoice_61, KX3_judgeChoice_65, KX3_judgeChoice_66, KX3_judgeChoice_79, KX3_judgeChoice_89, KX3_judgeChoice_122, KX3_judgeChoice_126, KX3_judgeChoice_127, KX3_judgeChoice_132, KX3_judgeChoice_133, KX3_judgeChoice_159, KX3_judgeChoice_169, KX3_judgeChoice_179, KX3_judgeChoice_183, KX3_judgeChoice_184, KX3_judgeChoice_200, KX3_judgeChoice_210, KX3_judgeChoice_217, lkC, s1C, s2C, dlC, kyC, Nat.beq, Nat.ble, rcd, rno, rsw, Nat.reduceAdd, Nat.reduceBEq, Nat.reduceDiv, List.drop, List.take, List.reverse, List.reverseAux, Int.toNat, Option.toList, List.append, List.cons_append, List.nil_append, zg62, zg68, zg70, zg71, zg72, zg73, zg74]
          have c74 : (Int32.ofInt 0).toInt = 0 := by decide
          refine hB _ _ _ _ _ (fun m75 hm75 => ?_)
          dsimp only [ucgo, ucwp, ucsC, uqC, uoC, ctC, rfd, KX3_judgeChoice, KX3_judgeChoice_0, KX3_judgeChoice_10, KX3_judgeChoice_21, KX3_judgeChoice_25, KX3_judgeChoice_26, KX3_judgeChoice_39, KX3_judgeChoice_49, KX3_judgeChoice_61, KX3_judgeChoice_65, KX3_judgeChoice_66, KX3_judgeChoice_79, KX3_judgeChoice_89, KX3_judgeChoice_122, KX3_judgeChoice_126, KX3_judgeChoice_127, KX3_judgeChoice_132, KX3_judgeChoice_133, KX3_judgeChoice_159, KX3_judgeChoice_169, KX3_judgeChoice_179, KX3_judgeChoice_183, KX3_judgeChoice_184, KX3_judgeChoice_200, KX3_judgeChoice_210, KX3_judgeChoice_217, lkC, s1C, s2C, dlC, kyC, Nat.beq, Nat.ble, rcd, rno, rsw, Nat.reduceAdd, Nat.reduceBEq, Nat.reduceDiv, List.drop, List.take, List.reverse, List.reverseAux, Int.toNat, Option.toList, List.append, List.cons_append, List.nil_append, zg62, zg68, zg70, zg71, zg72, zg73, zg74]
          refine ⟨fun h76 => ?_, fun h76 => ?_⟩
          · have g76 := (neI (x := (Int32.ofInt 0)) (y := 0) h76 : ¬ ((Int32.ofInt 0) : Int32).toInt = (0 : Int32).toInt)
            have z0_ : (0 : Int32).toInt = 0 := rfl
            exfalso
            omega
          · have g76 := (eqI (x := (Int32.ofInt 0)) (y := 0) h76 : ((Int32.ofInt 0) : Int32).toInt = (0 : Int32).toInt)
            have z0_ : (0 : Int32).toInt = 0 := rfl
            refine hB _ _ _ _ _ (fun m77 hm77 => ?_)
            dsimp only [ucgo, ucwp, ucsC, uqC, uoC, ctC, rfd, KX3_judgeChoice, KX3_judgeChoice_0, KX3_judgeChoice_10, KX3_judgeChoice_21, KX3_judgeChoice_25, KX3_judgeChoice_26, KX3_judgeChoice_39, KX3_judgeChoice_49, KX3_judgeChoice_61, KX3_judgeChoice_65, KX3_judgeChoice_66, KX3_judgeChoice_79, KX3_judgeChoice_89, KX3_judgeChoice_122, KX3_judgeChoice_126, KX3_judgeChoice_127, KX3_judgeChoice_132, KX3_judgeChoice_133, KX3_judgeChoice_159, KX3_judgeChoice_169, KX3_judgeChoice_179, KX3_judgeChoice_183, KX3_judgeChoice_184, KX3_judgeChoice_200, KX3_judgeChoice_210, KX3_judgeChoice_217, lkC, s1C, s2C, dlC, kyC, Nat.beq, Nat.ble, rcd, rno, rsw, Nat.reduceAdd, Nat.reduceBEq, Nat.reduceDiv, List.drop, List.take, List.reverse, List.reverseAux, Int.toNat, Option.toList, List.append, List.cons_append, List.nil_append, zg62, zg68, zg70, zg71, zg72, zg73, zg74]
            try dsimp only [Qz_judgeChoice]
            exact fun τ9 h9 => ⟨rfl, JqC.we h9 (Or.inl ⟨by unfold x8T; rw [if_neg (by unfold rtT nuT at *; omega)], qb71⟩)⟩
        · have g72 := (neI (x := (Int32.ofInt 0)) (y := 0) h72 : ¬ ((Int32.ofInt 0) : Int32).toInt = (0 : Int32).toInt)
          have z0_ : (0 : Int32).toInt = 0 := rfl
          exfalso
          omega
    · have g64 := (eqI (x := (fIC σ a 68)) (y := 0) h64 : ((fIC σ a 68) : Int32).toInt = (0 : Int32).toInt)
      have z0_ : (0 : Int32).toInt = 0 := rfl
      refine hB _ _ _ _ _ (fun m78 hm78 => ?_)
      dsimp only [ucgo, ucwp, ucsC, uqC, uoC, ctC, rfd, KX3_judgeChoice, KX3_judgeChoice_0, KX3_judgeChoice_10, KX3_judgeChoice_21, KX3_judgeChoice_25, KX3_judgeChoice_26, KX3_judgeChoice_39, KX3_judgeChoice_49, KX3_judgeChoice_61, KX3_judgeChoice_65, KX3_judgeChoice_66, KX3_judgeChoice_79, KX3_judgeChoice_89, KX3_judgeChoice_122, KX3_judgeChoice_126, KX3_judgeChoice_127, KX3_judgeChoice_132, KX3_judgeChoice_133, KX3_judgeChoice_159, KX3_judgeChoice_169, KX3_judgeChoice_179, KX3_judgeChoice_183, KX3_judgeChoice_184, KX3_judgeChoice_200, KX3_judgeChoice_210, KX3_judgeChoice_217, lkC, s1C, s2C, dlC, kyC, Nat.beq, Nat.ble, rcd, rno, rsw, Nat.reduceAdd, Nat.reduceBEq, Nat.reduceDiv, List.drop, List.take, List.reverse, List.reverseAux, Int.toNat, Option.toList, List.append, List.cons_append, List.nil_append, zg62, zg68, zg70, zg71, zg72, zg73, zg74]
      have c79 : (Int32.ofInt 1).toInt = 1 := by decide
      refine hB _ _ _ _ _ (fun m80 hm80 => ?_)
      dsimp only [ucgo, ucwp, ucsC, uqC, uoC, ctC, rfd, KX3_judgeChoice, KX3_judgeChoice_0, KX3_judgeChoice_10, KX3_judgeChoice_21, KX3_judgeChoice_25, KX3_judgeChoice_26, KX3_judgeChoice_39, KX3_judgeChoice_49, KX3_judgeChoice_61, KX3_judgeChoice_65, KX3_judgeChoice_66, KX3_judgeChoice_79, KX3_judgeChoice_89, KX3_judgeChoice_122, KX3_judgeChoice_126, KX3_judgeChoice_127, KX3_judgeChoice_132, KX3_judgeChoice_133, KX3_judgeChoice_159, KX3_judgeChoice_169, KX3_judgeChoice_179, KX3_judgeChoice_183, KX3_judgeChoice_184, KX3_judgeChoice_200, KX3_judgeChoice_210, KX3_judgeChoice_217, lkC, s1C, s2C, dlC, kyC, Nat.beq, Nat.ble, rcd, rno, rsw, Nat.reduceAdd, Nat.reduceBEq, Nat.reduceDiv, List.drop, List.take, List.reverse, List.reverseAux, Int.toNat, Option.toList, List.append, List.cons_append, List.nil_append, zg62, zg68, zg70, zg71, zg72, zg73, zg74]
      intro a81 e81 ob81
      cases e81
      intro a82 e82 ob82
      obtain rfl : a = a82 := Option.some.inj (ha.symm.trans e82)
      intro w84 τ84 o84 q84
      obtain ⟨rfl, qq84⟩ := q84 (N, E, A, B, V, z) ⟨_, _, rfl, hP⟩
      rcases qq84 with ⟨qa84, rfl⟩ | ⟨qa84, qb84⟩
      · have qc84 := qa84
        try dsimp only [Option.toList, List.cons_append, List.nil_append, s1C, s2C, dlC, kyC, Nat.beq, lkC, rcd, rno, rsw]
        refine ⟨fun h85 => ?_, fun h85 => ?_⟩
        · have g85 := (eqI (x := (Int32.ofInt 1)) (y := 0) h85 : ((Int32.ofInt 1) : Int32).toInt = (0 : Int32).toInt)
          have z0_ : (0 : Int32).toInt = 0 := rfl
          exfalso
          omega
        · have g85 := (neI (x := (Int32.ofInt 1)) (y := 0) h85 : ¬ ((Int32.ofInt 1) : Int32).toInt = (0 : Int32).toInt)
          have z0_ : (0 : Int32).toInt = 0 := rfl
          refine hB _ _ _ _ _ (fun m86 hm86 => ?_)
          dsimp only [ucgo, ucwp, ucsC, uqC, uoC, ctC, rfd, KX3_judgeChoice, KX3_judgeChoice_0, KX3_judgeChoice_10, KX3_judgeChoice_21, KX3_judgeChoice_25, KX3_judgeChoice_26, KX3_judgeChoice_39, KX3_judgeChoice_49, KX3_judgeChoice_61, KX3_judgeChoice_65, KX3_judgeChoice_66, KX3_judgeChoice_79, KX3_judgeChoice_89, KX3_judgeChoice_122, KX3_judgeChoice_126, KX3_judgeChoice_127, KX3_judgeChoice_132, KX3_judgeChoice_133, KX3_judgeChoice_159, KX3_judgeChoice_169, KX3_judgeChoice_179, KX3_judgeChoice_183, KX3_judgeChoice_184, KX3_judgeChoice_200, KX3_judgeChoice_210, KX3_judgeChoice_217, lkC, s1C, s2C, dlC, kyC, Nat.beq, Nat.ble, rcd, rno, rsw, Nat.reduceAdd, Nat.reduceBEq, Nat.reduceDiv, List.drop, List.take, List.reverse, List.reverseAux, Int.toNat, Option.toList, List.append, List.cons_append, List.nil_append, zg62, zg68, zg70, zg71, zg72, zg73, zg74]
          intro a87 e87 ob87
          cases e87
          intro w88 τ88 o88 q88
          obtain ⟨r88, rfl, hr88, rfl⟩ := q88 (N, E, A, B, V, z) ⟨_, rfl⟩
          have hr88 : (r88.toInt = 1 ∧ (fIC σ b 68).toInt = -1) ∨ (r88.toInt = 0 ∧ ¬ (fIC σ b 68).toInt = -1) := by
            rcases hr88 with q9 | q9
            · exact Or.inl ⟨q9.1, q9.2 _ hb⟩
            · exact Or.inr ⟨q9.1, fun q8 => q9.2 (fun a9 q7 => by cases hb.symm.trans q7; exact q8)⟩
          try dsimp only [Option.toList, List.cons_append, List.nil_append, s1C, s2C, dlC, kyC, Nat.beq, lkC, rcd, rno, rsw]
          refine ⟨fun h89 => ?_, fun h89 => ?_⟩
          · have g89 := (neI (x := r88) (y := 0) h89 : ¬ (r88 : Int32).toInt = (0 : Int32).toInt)
            have z0_ : (0 : Int32).toInt = 0 := rfl
            refine hB _ _ _ _ _ (fun m90 hm90 => ?_)
            dsimp only [ucgo, ucwp, ucsC, uqC, uoC, ctC, rfd, KX3_judgeChoice, KX3_judgeChoice_0, KX3_judgeChoice_10, KX3_judgeChoice_21, KX3_judgeChoice_25, KX3_judgeChoice_26, KX3_judgeChoice_39, KX3_judgeChoice_49, KX3_judgeChoice_61, KX3_judgeChoice_65, KX3_judgeChoice_66, KX3_judgeChoice_79, KX3_judgeChoice_89, KX3_judgeChoice_122, KX3_judgeChoice_126, KX3_judgeChoice_127, KX3_judgeChoice_132, KX3_judgeChoice_133, KX3_judgeChoice_159, KX3_judgeChoice_169, KX3_judgeChoice_179, KX3_judgeChoice_183, KX3_judgeChoice_184, KX3_judgeChoice_200, KX3_judgeChoice_210, KX3_judgeChoice_217, lkC, s1C, s2C, dlC, kyC, Nat.beq, Nat.ble, rcd, rno, rsw, Nat.reduceAdd, Nat.reduceBEq, Nat.reduceDiv, List.drop, List.take, List.reverse, List.reverseAux, Int.toNat, Option.toList, List.append, List.cons_append, List.nil_append, zg62, zg68, zg70, zg71, zg72, zg73, zg74]
            have c91 : (Int32.ofInt 0).toInt = 0 := by decide
            refine hB _ _ _ _ _ (fun m92 hm92 => ?_)
            dsimp only [ucgo, ucwp, ucsC, uqC, uoC, ctC, rfd, KX3_judgeChoice, KX3_judgeChoice_0, KX3_judgeChoice_10, KX3_judgeChoice_21, KX3_judgeChoice_25, KX3_judgeChoice_26, KX3_judgeChoice_39, KX3_judgeChoice_49, KX3_judgeChoice_61, KX3_judgeChoice_65, KX3_judgeChoice_66, KX3_judgeChoice_79, KX3_judgeChoice_89, KX3_judgeChoice_122, KX3_judgeChoice_126, KX3_judgeChoice_127, KX3_judgeChoice_132, KX3_judgeChoice_133, KX3_judgeChoice_159, KX3_judgeChoice_169, KX3_judgeChoice_179, KX3_judgeChoice_183, KX3_judgeChoice_184, KX3_judgeChoice_200, KX3_judgeChoice_210, KX3_judgeChoice_217, lkC, s1C, s2C, dlC, kyC, Nat.beq, Nat.ble, rcd, rno, rsw, Nat.reduceAdd, Nat.reduceBEq, Nat.reduceDiv, List.drop, List.take, List.reverse, List.reverseAux, Int.toNat, Option.toList, List.append, List.cons_append, List.nil_append, zg62, zg68, zg70, zg71, zg72, zg73, zg74]
            refine ⟨fun h93 => ?_, fun h93 => ?_⟩
            · have g93 := (neI (x := (Int32.ofInt 0)) (y := 0) h93 : ¬ ((Int32.ofInt 0) : Int32).toInt = (0 : Int32).toInt)
              have z0_ : (0 : Int32).toInt = 0 := rfl
              exfalso
              omega
            · have g93 := (eqI (x := (Int32.ofInt 0)) (y := 0) h93 : ((Int32.ofInt 0) : Int32).toInt = (0 : Int32).toInt)
              have z0_ : (0 : Int32).toInt = 0 := rfl
              refine hB _ _ _ _ _ (fun m94 hm94 => ?_)
              dsimp only [ucgo, ucwp, ucsC, uqC, uoC, ctC, rfd, KX3_judgeChoice, KX3_judgeChoice_0, KX3_judgeChoice_10, KX3_judgeChoice_21, KX3_judgeChoice_25, KX3_judgeChoice_26, KX3_judgeChoice_39, KX3_judgeChoice_49, KX3_judgeChoice_61, KX3_judgeChoice_65, KX3_judgeChoice_66, KX3_judgeChoice_79, KX3_judgeChoice_89, KX3_judgeChoice_122, KX3_judgeChoice_126, KX3_judgeChoice_127, KX3_judgeChoice_132, KX3_judgeChoice_133, KX3_judgeChoice_159, KX3_judgeChoice_169, KX3_judgeChoice_179, KX3_judgeChoice_183, KX3_judgeChoice_184, KX3_judgeChoice_200, KX3_judgeChoice_210, KX3_judgeChoice_217, lkC, s1C, s2C, dlC, kyC, Nat.beq, Nat.ble, rcd, rno, rsw, Nat.reduceAdd, Nat.reduceBEq, Nat.reduceDiv, List.drop, List.take, List.reverse, List.reverseAux, Int.toNat, Option.toList, List.append, List.cons_append, List.nil_append, zg62, zg68, zg70, zg71, zg72, zg73, zg74]
              try dsimp only [Qz_judgeChoice]
              exfalso
              omega
          · have g89 := (eqI (x := r88) (y := 0) h89 : (r88 : Int32).toInt = (0 : Int32).toInt)
            have z0_ : (0 : Int32).toInt = 0 := rfl
            refine hB _ _ _ _ _ (fun m95 hm95 => ?_)
            dsimp only [ucgo, ucwp, ucsC, uqC, uoC, ctC, rfd, KX3_judgeChoice, KX3_judgeChoice_0, KX3_judgeChoice_10, KX3_judgeChoice_21, KX3_judgeChoice_25, KX3_judgeChoice_26, KX3_judgeChoice_39, KX3_judgeChoice_49, KX3_judgeChoice_61, KX3_judgeChoice_65, KX3_judgeChoice_66, KX3_judgeChoice_79, KX3_judgeChoice_89, KX3_judgeChoice_122, KX3_judgeChoice_126, KX3_judgeChoice_127, KX3_judgeChoice_132, KX3_judgeChoice_133, KX3_judgeChoice_159, KX3_judgeChoice_169, KX3_judgeChoice_179, KX3_judgeChoice_183, KX3_judgeChoice_184, KX3_judgeChoice_200, KX3_judgeChoice_210, KX3_judgeChoice_217, lkC, s1C, s2C, dlC, kyC, Nat.beq, Nat.ble, rcd, rno, rsw, Nat.reduceAdd, Nat.reduceBEq, Nat.reduceDiv, List.drop, List.take, List.reverse, List.reverseAux, Int.toNat, Option.toList, List.append, List.cons_append, List.nil_append, zg62, zg68, zg70, zg71, zg72, zg73, zg74]
            intro a96 e96 ob96
            cases e96
            intro a97 e97 ob97
            obtain rfl : b = a97 := Option.some.inj (hb.symm.trans e97)
            have f98 : (fIC σ b 68).toInt = tb.1 := wb.1
            have c99 : (Int32.ofInt 5).toInt = 5 := by decide
            refine ⟨fun h100 => ?_, fun h100 => ?_⟩
            · have g100 := (eqI (x := (fIC σ b 68)) (y := (Int32.ofInt 5)) h100 : ((fIC σ b 68) : Int32).toInt = ((Int32.ofInt 5) : Int32).toInt)
              refine hB _ _ _ _ _ (fun m101 hm101 => ?_)
              dsimp only [ucgo, ucwp, ucsC, uqC, uoC, ctC, rfd, KX3_judgeChoice, KX3_judgeChoice_0, KX3_judgeChoice_10, KX3_judgeChoice_21, KX3_judgeChoice_25, KX3_judgeChoice_26, KX3_judgeChoice_39, KX3_judgeChoice_49, KX3_judgeChoice_61, KX3_judgeChoice_65, KX3_judgeChoice_66, KX3_judgeChoice_79, KX3_judgeChoice_89, KX3_judgeChoice_122, KX3_judgeChoice_126, KX3_judgeChoice_127, KX3_judgeChoice_132, KX3_judgeChoice_133, KX3_judgeChoice_159, KX3_judgeChoice_169, KX3_judgeChoice_179, KX3_judgeChoice_183, KX3_judgeChoice_184, KX3_judgeChoice_200, KX3_judgeChoice_210, KX3_judgeChoice_217, lkC, s1C, s2C, dlC, kyC, Nat.beq, Nat.ble, rcd, rno, rsw, Nat.reduceAdd, Nat.reduceBEq, Nat.reduceDiv, List.drop, List.take, List.reverse, List.reverseAux, Int.toNat, Option.toList, List.append, List.cons_append, List.nil_append, zg62, zg68, zg70, zg71, zg72, zg73, zg74]
              have c102 : (Int32.ofInt 0).toInt = 0 := by decide
              refine hB _ _ _ _ _ (fun m103 hm103 => ?_)
              dsimp only [ucgo, ucwp, ucsC, uqC, uoC, ctC, rfd, KX3_judgeChoice, KX3_judgeChoice_0, KX3_judgeChoice_10, KX3_judgeChoice_21, KX3_judgeChoice_25, KX3_judgeChoice_26, KX3_judgeChoice_39, KX3_judgeChoice_49, KX3_judgeChoice_61, KX3_judgeChoice_65, KX3_judgeChoice_66, KX3_judgeChoice_79, KX3_judgeChoice_89, KX3_judgeChoice_122, KX3_judgeChoice_126, KX3_judgeChoice_127, KX3_judgeChoice_132, KX3_judgeChoice_133, KX3_judgeChoice_159, KX3_judgeChoice_169, KX3_judgeChoice_179, KX3_judgeChoice_183, KX3_judgeChoice_184, KX3_judgeChoice_200, KX3_judgeChoice_210, KX3_judgeChoice_217, lkC, s1C, s2C, dlC, kyC, Nat.beq, Nat.ble, rcd, rno, rsw, Nat.reduceAdd, Nat.reduceBEq, Nat.reduceDiv, List.drop, List.take, List.reverse, List.reverseAux, Int.toNat, Option.toList, List.append, List.cons_append, List.nil_append, zg62, zg68, zg70, zg71, zg72, zg73, zg74]
              intro a104 e104 ob104
              cases e104
              intro a105 e105 ob105
              obtain rfl : b = a105 := Option.some.inj (hb.symm.trans e105)
              intro w107 τ107 o107 q107
              obtain ⟨rfl, qq107⟩ := q107 (N, E, A, B, V, z) ⟨_, _, rfl, hP⟩
              rcases qq107 with ⟨qa107, rfl⟩ | ⟨qa107, qb107⟩
              · have qc107 := qa107
                exfalso
                omega
              · have hP107 : PjC E τ107 := hP.fr o107.2 rfl rfl
                try dsimp only [Option.toList, List.cons_append, List.nil_append, s1C, s2C, dlC, kyC, Nat.beq, lkC, rcd, rno, rsw]
                refine ⟨fun h108 => ?_, fun h108 => ?_⟩
                · have g108 := (eqI (x := (Int32.ofInt 0)) (y := 0) h108 : ((Int32.ofInt 0) : Int32).toInt = (0 : Int32).toInt)
                  have z0_ : (0 : Int32).toInt = 0 := rfl
                  refine hB _ _ _ _ _ (fun m109 hm109 => ?_)
                  dsimp only [ucgo, ucwp, ucsC, uqC, uoC, ctC, rfd, KX3_judgeChoice, KX3_judgeChoice_0, KX3_judgeChoice_10, KX3_judgeChoice_21, KX3_judgeChoice_25, KX3_judgeChoice_26, KX3_judgeChoice_39, KX3_judgeChoice_49, KX3_judgeChoice_61, KX3_judgeChoice_65, KX3_judgeChoice_66, KX3_judgeChoice_79, KX3_judgeChoice_89, KX3_judgeChoice_122, KX3_judgeChoice_126, KX3_judgeChoice_127, KX3_judgeChoice_132, KX3_judgeChoice_133, KX3_judgeChoice_159, KX3_judgeChoice_169, KX3_judgeChoice_179, KX3_judgeChoice_183, KX3_judgeChoice_184, KX3_judgeChoice_200, KX3_judgeChoice_210, KX3_judgeChoice_217, lkC, s1C, s2C, dlC, kyC, Nat.beq, Nat.ble, rcd, rno, rsw, Nat.reduceAdd, Nat.reduceBEq, Nat.reduceDiv, List.drop, List.take, List.reverse, List.reverseAux, Int.toNat, Option.toList, List.append, List.cons_append, List.nil_append, zg62, zg68, zg70, zg71, zg72, zg73, zg74]
                  have c110 : (Int32.ofInt 0).toInt = 0 := by decide
                  refine hB _ _ _ _ _ (fun m111 hm111 => ?_)
                  dsimp only [ucgo, ucwp, ucsC, uqC, uoC, ctC, rfd, KX3_judgeChoice, KX3_judgeChoice_0, KX3_judgeChoice_10, KX3_judgeChoice_21, KX3_judgeChoice_25, KX3_judgeChoice_26, KX3_judgeChoice_39, KX3_judgeChoice_49, KX3_judgeChoice_61, KX3_judgeChoice_65, KX3_judgeChoice_66, KX3_judgeChoice_79, KX3_judgeChoice_89, KX3_judgeChoice_122, KX3_judgeChoice_126, KX3_judgeChoice_127, KX3_judgeChoice_132, KX3_judgeChoice_133, KX3_judgeChoice_159, KX3_judgeChoice_169, KX3_judgeChoice_179, KX3_judgeChoice_183, KX3_judgeChoice_184, KX3_judgeChoice_200, KX3_judgeChoice_210, KX3_judgeChoice_217, lkC, s1C, s2C, dlC, kyC, Nat.beq, Nat.ble, rcd, rno, rsw, Nat.reduceAdd, Nat.reduceBEq, Nat.reduceDiv, List.drop, List.take, List.reverse, List.reverseAux, Int.toNat, Option.toList, List.append, List.cons_append, List.nil_append, zg62, zg68, zg70, zg71, zg72, zg73, zg74]
                  refine ⟨fun h112 => ?_, fun h112 => ?_⟩
                  · have g112 := (neI (x := (Int32.ofInt 0)) (y := 0) h112 : ¬ ((Int32.ofInt 0) : Int32).toInt = (0 : Int32).toInt)
                    have z0_ : (0 : Int32).toInt = 0 := rfl
                    exfalso
                    omega
                  · have g112 := (eqI (x := (Int32.ofInt 0)) (y := 0) h112 : ((Int32.ofInt 0) : Int32).toInt = (0 : Int32).toInt)
                    have z0_ : (0 : Int32).toInt = 0 := rfl
                    refine hB _ _ _ _ _ (fun m113 hm113 => ?_)
                    dsimp only [ucgo, ucwp, ucsC, uqC, uoC, ctC, rfd, KX3_judgeChoice, KX3_judgeChoice_0, KX3_judgeChoice_10, KX3_judgeChoice_21, KX3_judgeChoice_25, KX3_judgeChoice_26, KX3_judgeChoice_39, KX3_judgeChoice_49, KX3_judgeChoice_61, KX3_judgeChoice_65, KX3_judgeChoice_66, KX3_judgeChoice_79, KX3_judgeChoice_89, KX3_judgeChoice_122, KX3_judgeChoice_126, KX3_judgeChoice_127, KX3_judgeChoice_132, KX3_judgeChoice_133, KX3_judgeChoice_159, KX3_judgeChoice_169, KX3_judgeChoice_179, KX3_judgeChoice_183, KX3_judgeChoice_184, KX3_judgeChoice_200, KX3_judgeChoice_210, KX3_judgeChoice_217, lkC, s1C, s2C, dlC, kyC, Nat.beq, Nat.ble, rcd, rno, rsw, Nat.reduceAdd, Nat.reduceBEq, Nat.reduceDiv, List.drop, List.take, List.reverse, List.reverseAux, Int.toNat, Option.toList, List.append, List.cons_append, List.nil_append, zg62, zg68, zg70, zg71, zg72, zg73, zg74]
                    try dsimp only [Qz_judgeChoice]
                    exact fun τ9 h9 => ⟨rfl, JqC.we h9 (Or.inl ⟨by unfold x8T; rw [if_neg (by unfold rtT nuT at *; omega)], qb107⟩)⟩
                · have g108 := (neI (x := (Int32.ofInt 0)) (y := 0) h108 : ¬ ((Int32.ofInt 0) : Int32).toInt = (0 : Int32).toInt)
                  have z0_ : (0 : Int32).toInt = 0 := rfl
                  exfalso
                  omega
            · have g100 := (neI (x := (fIC σ b 68)) (y := (Int32.ofInt 5)) h100 : ¬ ((fIC σ b 68) : Int32).toInt = ((Int32.ofInt 5) : Int32).toInt)
              refine hB _ _ _ _ _ (fun m114 hm114 => ?_)
              dsimp only [ucgo, ucwp, ucsC, uqC, uoC, ctC, rfd, KX3_judgeChoice, KX3_judgeChoice_0, KX3_judgeChoice_10, KX3_judgeChoice_21, KX3_judgeChoice_25, KX3_judgeChoice_26, KX3_judgeChoice_39, KX3_judgeChoice_49, KX3_judgeChoice_61, KX3_judgeChoice_65, KX3_judgeChoice_66, KX3_judgeChoice_79, KX3_judgeChoice_89, KX3_judgeChoice_122, KX3_judgeChoice_126, KX3_judgeChoice_127, KX3_judgeChoice_132, KX3_judgeChoice_133, KX3_judgeChoice_159, KX3_judgeChoice_169, KX3_judgeChoice_179, KX3_judgeChoice_183, KX3_judgeChoice_184, KX3_judgeChoice_200, KX3_judgeChoice_210, KX3_judgeChoice_217, lkC, s1C, s2C, dlC, kyC, Nat.beq, Nat.ble, rcd, rno, rsw, Nat.reduceAdd, Nat.reduceBEq, Nat.reduceDiv, List.drop, List.take, List.reverse, List.reverseAux, Int.toNat, Option.toList, List.append, List.cons_append, List.nil_append, zg62, zg68, zg70, zg71, zg72, zg73, zg74]
              have c115 : (Int32.ofInt 1).toInt = 1 := by decide
              refine hB _ _ _ _ _ (fun m116 hm116 => ?_)
              dsimp only [ucgo, ucwp, ucsC, uqC, uoC, ctC, rfd, KX3_judgeChoice, KX3_judgeChoice_0, KX3_judgeChoice_10, KX3_judgeChoice_21, KX3_judgeChoice_25, KX3_judgeChoice_26, KX3_judgeChoice_39, KX3_judgeChoice_49, KX3_judgeChoice_61, KX3_judgeChoice_65, KX3_judgeChoice_66, KX3_judgeChoice_79, KX3_judgeChoice_89, KX3_judgeChoice_122, KX3_judgeChoice_126, KX3_judgeChoice_127, KX3_judgeChoice_132, KX3_judgeChoice_133, KX3_judgeChoice_159, KX3_judgeChoice_169, KX3_judgeChoice_179, KX3_judgeChoice_183, KX3_judgeChoice_184, KX3_judgeChoice_200, KX3_judgeChoice_210, KX3_judgeChoice_217, lkC, s1C, s2C, dlC, kyC, Nat.beq, Nat.ble, rcd, rno, rsw, Nat.reduceAdd, Nat.reduceBEq, Nat.reduceDiv, List.drop, List.take, List.reverse, List.reverseAux, Int.toNat, Option.toList, List.append, List.cons_append, List.nil_append, zg62, zg68, zg70, zg71, zg72, zg73, zg74]
              intro a117 e117 ob117
              cases e117
              intro a118 e118 ob118
              obtain rfl : b = a118 := Option.some.inj (hb.symm.trans e118)
              intro w120 τ120 o120 q120
              obtain ⟨rfl, qq120⟩ := q120 (N, E, A, B, V, z) ⟨_, _, rfl, hP⟩
              rcases qq120 with ⟨qa120, rfl⟩ | ⟨qa120, qb120⟩
              · have qc120 := qa120
                try dsimp only [Option.toList, List.cons_append, List.nil_append, s1C, s2C, dlC, kyC, Nat.beq, lkC, rcd, rno, rsw]
                refine ⟨fun h121 => ?_, fun h121 => ?_⟩
                · have g121 := (eqI (x := (Int32.ofInt 1)) (y := 0) h121 : ((Int32.ofInt 1) : Int32).toInt = (0 : Int32).toInt)
                  have z0_ : (0 : Int32).toInt = 0 := rfl
                  exfalso
                  omega
                · have g121 := (neI (x := (Int32.ofInt 1)) (y := 0) h121 : ¬ ((Int32.ofInt 1) : Int32).toInt = (0 : Int32).toInt)
                  have z0_ : (0 : Int32).toInt = 0 := rfl
                  refine hB _ _ _ _ _ (fun m122 hm122 => ?_)
                  dsimp only [ucgo, ucwp, ucsC, uqC, uoC, ctC, rfd, KX3_judgeChoice, KX3_judgeChoice_0, KX3_judgeChoice_10, KX3_judgeChoice_21, KX3_judgeChoice_25, KX3_judgeChoice_26, KX3_judgeChoice_39, KX3_judgeChoice_49, KX3_judgeChoice_61, KX3_judgeChoice_65, KX3_judgeChoice_66, KX3_judgeChoice_79, KX3_judgeChoice_89, KX3_judgeChoice_122, KX3_judgeChoice_126, KX3_judgeChoice_127, KX3_judgeChoice_132, KX3_judgeChoice_133, KX3_judgeChoice_159, KX3_judgeChoice_169, KX3_judgeChoice_179, KX3_judgeChoice_183, KX3_judgeChoice_184, KX3_judgeChoice_200, KX3_judgeChoice_210, KX3_judgeChoice_217, lkC, s1C, s2C, dlC, kyC, Nat.beq, Nat.ble, rcd, rno, rsw, Nat.reduceAdd, Nat.reduceBEq, Nat.reduceDiv, List.drop, List.take, List.reverse, List.reverseAux, Int.toNat, Option.toList, List.append, List.cons_append, List.nil_append, zg62, zg68, zg70, zg71, zg72, zg73, zg74]
                  intro a123 e123 ob123
                  cases e123
                  intro w124 τ124 o124 q124
                  obtain ⟨r124, rfl, hr124, rfl⟩ := q124 (N, E, A, B, V, z) ⟨_, rfl⟩
                  have hr124 : (r124.toInt = 1 ∧ (fIC σ c 68).toInt = -1) ∨ (r124.toInt = 0 ∧ ¬ (fIC σ c 68).toInt = -1) := by
                    rcases hr124 with q9 | q9
                    · exact Or.inl ⟨q9.1, q9.2 _ hc⟩
                    · exact Or.inr ⟨q9.1, fun q8 => q9.2 (fun a9 q7 => by cases hc.symm.trans q7; exact q8)⟩
                  try dsimp only [Option.toList, List.cons_append, List.nil_append, s1C, s2C, dlC, kyC, Nat.beq, lkC, rcd, rno, rsw]
                  refine ⟨fun h125 => ?_, fun h125 => ?_⟩
                  · have g125 := (neI (x := r124) (y := 0) h125 : ¬ (r124 : Int32).toInt = (0 : Int32).toInt)
                    have z0_ : (0 : Int32).toInt = 0 := rfl
                    refine hB _ _ _ _ _ (fun m126 hm126 => ?_)
                    dsimp only [ucgo, ucwp, ucsC, uqC, uoC, ctC, rfd, KX3_judgeChoice, KX3_judgeChoice_0, KX3_judgeChoice_10, KX3_judgeChoice_21, KX3_judgeChoice_25, KX3_judgeChoice_26, KX3_judgeChoice_39, KX3_judgeChoice_49, KX3_judgeChoice_61, KX3_judgeChoice_65, KX3_judgeChoice_66, KX3_judgeChoice_79, KX3_judgeChoice_89, KX3_judgeChoice_122, KX3_judgeChoice_126, KX3_judgeChoice_127, KX3_judgeChoice_132, KX3_judgeChoice_133, KX3_judgeChoice_159, KX3_judgeChoice_169, KX3_judgeChoice_179, KX3_judgeChoice_183, KX3_judgeChoice_184, KX3_judgeChoice_200, KX3_judgeChoice_210, KX3_judgeChoice_217, lkC, s1C, s2C, dlC, kyC, Nat.beq, Nat.ble, rcd, rno, rsw, Nat.reduceAdd, Nat.reduceBEq, Nat.reduceDiv, List.drop, List.take, List.reverse, List.reverseAux, Int.toNat, Option.toList, List.append, List.cons_append, List.nil_append, zg62, zg68, zg70, zg71, zg72, zg73, zg74]
                    have c127 : (Int32.ofInt 0).toInt = 0 := by decide
                    refine hB _ _ _ _ _ (fun m128 hm128 => ?_)
                    dsimp only [ucgo, ucwp, ucsC, uqC, uoC, ctC, rfd, KX3_judgeChoice, KX3_judgeChoice_0, KX3_judgeChoice_10, KX3_judgeChoice_21, KX3_judgeChoice_25, KX3_judgeChoice_26, KX3_judgeChoice_39, KX3_judgeChoice_49, KX3_judgeChoice_61, KX3_judgeChoice_65, KX3_judgeChoice_66, KX3_judgeChoice_79, KX3_judgeChoice_89, KX3_judgeChoice_122, KX3_judgeChoice_126, KX3_judgeChoice_127, KX3_judgeChoice_132, KX3_judgeChoice_133, KX3_judgeChoice_159, KX3_judgeChoice_169, KX3_judgeChoice_179, KX3_judgeChoice_183, KX3_judgeChoice_184, KX3_judgeChoice_200, KX3_judgeChoice_210, KX3_judgeChoice_217, lkC, s1C, s2C, dlC, kyC, Nat.beq, Nat.ble, rcd, rno, rsw, Nat.reduceAdd, Nat.reduceBEq, Nat.reduceDiv, List.drop, List.take, List.reverse, List.reverseAux, Int.toNat, Option.toList, List.append, List.cons_append, List.nil_append, zg62, zg68, zg70, zg71, zg72, zg73, zg74]
                    refine ⟨fun h129 => ?_, fun h129 => ?_⟩
                    · have g129 := (neI (x := (Int32.ofInt 0)) (y := 0) h129 : ¬ ((Int32.ofInt 0) : Int32).toInt = (0 : Int32).toInt)
                      have z0_ : (0 : Int32).toInt = 0 := rfl
                      exfalso
                      omega
                    · have g129 := (eqI (x := (Int32.ofInt 0)) (y := 0) h129 : ((Int32.ofInt 0) : Int32).toInt = (0 : Int32).toInt)
                      have z0_ : (0 : Int32).toInt = 0 := rfl
                      refine hB _ _ _ _ _ (fun m130 hm130 => ?_)
                      dsimp only [ucgo, ucwp, ucsC, uqC, uoC, ctC, rfd, KX3_judgeChoice, KX3_judgeChoice_0, KX3_judgeChoice_10, KX3_judgeChoice_21, KX3_judgeChoice_25, KX3_judgeChoice_26, KX3_judgeChoice_39, KX3_judgeChoice_49, KX3_judgeChoice_61, KX3_judgeChoice_65, KX3_judgeChoice_66, KX3_judgeChoice_79, KX3_judgeChoice_89, KX3_judgeChoice_122, KX3_judgeChoice_126, KX3_judgeChoice_127, KX3_judgeChoice_132, KX3_judgeChoice_133, KX3_judgeChoice_159, KX3_judgeChoice_169, KX3_judgeChoice_179, KX3_judgeChoice_183, KX3_judgeChoice_184, KX3_judgeChoice_200, KX3_judgeChoice_210, KX3_judgeChoice_217, lkC, s1C, s2C, dlC, kyC, Nat.beq, Nat.ble, rcd, rno, rsw, Nat.reduceAdd, Nat.reduceBEq, Nat.reduceDiv, List.drop, List.take, List.reverse, List.reverseAux, Int.toNat, Option.toList, List.append, List.cons_append, List.nil_append, zg62, zg68, zg70, zg71, zg72, zg73, zg74]
                      try dsimp only [Qz_judgeChoice]
                      exfalso
                      omega
                  · have g125 := (eqI (x := r124) (y := 0) h125 : (r124 : Int32).toInt = (0 : Int32).toInt)
                    have z0_ : (0 : Int32).toInt = 0 := rfl
                    refine hB _ _ _ _ _ (fun m131 hm131 => ?_)
                    dsimp only [ucgo, ucwp, ucsC, uqC, uoC, ctC, rfd, KX3_judgeChoice, KX3_judgeChoice_0, KX3_judgeChoice_10, KX3_judgeChoice_21, KX3_judgeChoice_25, KX3_judgeChoice_26, KX3_judgeChoice_39, KX3_judgeChoice_49, KX3_judgeChoice_61, KX3_judgeChoice_65, KX3_judgeChoice_66, KX3_judgeChoice_79, KX3_judgeChoice_89, KX3_judgeChoice_122, KX3_judgeChoice_126, KX3_judgeChoice_127, KX3_judgeChoice_132, KX3_judgeChoice_133, KX3_judgeChoice_159, KX3_judgeChoice_169, KX3_judgeChoice_179, KX3_judgeChoice_183, KX3_judgeChoice_184, KX3_judgeChoice_200, KX3_judgeChoice_210, KX3_judgeChoice_217, lkC, s1C, s2C, dlC, kyC, Nat.beq, Nat.ble, rcd, rno, rsw, Nat.reduceAdd, Nat.reduceBEq, Nat.reduceDiv, List.drop, List.take, List.reverse, List.reverseAux, Int.toNat, Option.toList, List.append, List.cons_append, List.nil_append, zg62, zg68, zg70, zg71, zg72, zg73, zg74]
                    have c132 : (Int32.ofInt 7).toInt = 7 := by decide
                    intro a133 e133 ob133
                    cases e133
                    intro a134 e134 ob134
                    obtain rfl : b = a134 := Option.some.inj (hb.symm.trans e134)
                    have f135 : (fIC σ b 68).toInt = tb.1 := wb.1
                    intro a136 e136 ob136
                    cases e136
                    intro a137 e137 ob137
                    obtain rfl : c = a137 := Option.some.inj (hc.symm.trans e137)
                    have f138 : (fIC σ c 68).toInt = tc.1 := wc.1
                    intro w139 τ139 o139 q139
                    obtain ⟨r139, rfl, hr139, rfl⟩ := q139 (N, E, A, B, V, z) ⟨_, _, _, rfl⟩
                    try dsimp only [Option.toList, List.cons_append, List.nil_append, s1C, s2C, dlC, kyC, Nat.beq, lkC, rcd, rno, rsw]
                    intro a140 e140 ob140
                    cases e140
                    intro a141 e141 ob141
                    obtain rfl : c = a141 := Option.some.inj (hc.symm.trans e141)
                    intro w143 τ143 o143 q143
                    obtain ⟨rfl, qq143⟩ := q143 (N, E, A, B, V, z) ⟨_, _, rfl, hP⟩
                    rcases qq143 with ⟨qa143, rfl⟩ | ⟨qa143, qb143⟩
                    · have qc143 := qa143
                      try dsimp only [Option.toList, List.cons_append, List.nil_append, s1C, s2C, dlC, kyC, Nat.beq, lkC, rcd, rno, rsw]
                      refine ⟨fun h144 => ?_, fun h144 => ?_⟩
                      · have g144 := (eqI (x := r139) (y := 0) h144 : (r139 : Int32).toInt = (0 : Int32).toInt)
                        have z0_ : (0 : Int32).toInt = 0 := rfl
                        exfalso
                        omega
                      · have g144 := (neI (x := r139) (y := 0) h144 : ¬ (r139 : Int32).toInt = (0 : Int32).toInt)
                        have z0_ : (0 : Int32).toInt = 0 := rfl
                        refine hB _ _ _ _ _ (fun m145 hm145 => ?_)
                        dsimp only [ucgo, ucwp, ucsC, uqC, uoC, ctC, rfd, KX3_judgeChoice, KX3_judgeChoice_0, KX3_judgeChoice_10, KX3_judgeChoice_21, KX3_judgeChoice_25, KX3_judgeChoice_26, KX3_judgeChoice_39, KX3_judgeChoice_49, KX3_judgeChoice_61, KX3_judgeChoice_65, KX3_judgeChoice_66, KX3_judgeChoice_79, KX3_judgeChoice_89, KX3_judgeChoice_122, KX3_judgeChoice_126, KX3_judgeChoice_127, KX3_judgeChoice_132, KX3_judgeChoice_133, KX3_judgeChoice_159, KX3_judgeChoice_169, KX3_judgeChoice_179, KX3_judgeChoice_183, KX3_judgeChoice_184, KX3_judgeChoice_200, KX3_judgeChoice_210, KX3_judgeChoice_217, lkC, s1C, s2C, dlC, kyC, Nat.beq, Nat.ble, rcd, rno, rsw, Nat.reduceAdd, Nat.reduceBEq, Nat.reduceDiv, List.drop, List.take, List.reverse, List.reverseAux, Int.toNat, Option.toList, List.append, List.cons_append, List.nil_append, zg62, zg68, zg70, zg71, zg72, zg73, zg74]
                        have c146 : (Int32.ofInt 1).toInt = 1 := by decide
                        refine hB _ _ _ _ _ (fun m147 hm147 => ?_)
                        dsimp only [ucgo, ucwp, ucsC, uqC, uoC, ctC, rfd, KX3_judgeChoice, KX3_judgeChoice_0, KX3_judgeChoice_10, KX3_judgeChoice_21, KX3_judgeChoice_25, KX3_judgeChoice_26, KX3_judgeChoice_39, KX3_judgeChoice_49, KX3_judgeChoice_61, KX3_judgeChoice_65, KX3_judgeChoice_66, KX3_judgeChoice_79, KX3_judgeChoice_89, KX3_judgeChoice_122, KX3_judgeChoice_126, KX3_judgeChoice_127, KX3_judgeChoice_132, KX3_judgeChoice_133, KX3_judgeChoice_159, KX3_judgeChoice_169, KX3_judgeChoice_179, KX3_judgeChoice_183, KX3_judgeChoice_184, KX3_judgeChoice_200, KX3_judgeChoice_210, KX3_judgeChoice_217, lkC, s1C, s2C, dlC, kyC, Nat.beq, Nat.ble, rcd, rno, rsw, Nat.reduceAdd, Nat.reduceBEq, Nat.reduceDiv, List.drop, List.take, List.reverse, List.reverseAux, Int.toNat, Option.toList, List.append, List.cons_append, List.nil_append, zg62, zg68, zg70, zg71, zg72, zg73, zg74]
                        refine ⟨fun h148 => ?_, fun h148 => ?_⟩
                        · have g148 := (neI (x := (Int32.ofInt 1)) (y := 0) h148 : ¬ ((Int32.ofInt 1) : Int32).toInt = (0 : Int32).toInt)
                          have z0_ : (0 : Int32).toInt = 0 := rfl
                          refine hB _ _ _ _ _ (fun m149 hm149 => ?_)
                          dsimp only [ucgo, ucwp, ucsC, uqC, uoC, ctC, rfd, KX3_judgeChoice, KX3_judgeChoice_0, KX3_judgeChoice_10, KX3_judgeChoice_21, KX3_judgeChoice_25, KX3_judgeChoice_26, KX3_judgeChoice_39, KX3_judgeChoice_49, KX3_judgeChoice_61, KX3_judgeChoice_65, KX3_judgeChoice_66, KX3_judgeChoice_79, KX3_judgeChoice_89, KX3_judgeChoice_122, KX3_judgeChoice_126, KX3_judgeChoice_127, KX3_judgeChoice_132, KX3_judgeChoice_133, KX3_judgeChoice_159, KX3_judgeChoice_169, KX3_judgeChoice_179, KX3_judgeChoice_183, KX3_judgeChoice_184, KX3_judgeChoice_200, KX3_judgeChoice_210, KX3_judgeChoice_217, lkC, s1C, s2C, dlC, kyC, Nat.beq, Nat.ble, rcd, rno, rsw, Nat.reduceAdd, Nat.reduceBEq, Nat.reduceDiv, List.drop, List.take, List.reverse, List.reverseAux, Int.toNat, Option.toList, List.append, List.cons_append, List.nil_append, zg62, zg68, zg70, zg71, zg72, zg73, zg74]
                          intro a150 e150 ob150
                          cases e150
                          intro a151 e151 ob151
                          cases e151
                          intro w152 τ152 o152 q152
                          rw [hb] at q152 o152
                          rw [hc] at q152 o152
                          obtain ⟨r152, rfl, hr152, rfl⟩ := q152 (N, E, A, B, V, z) ⟨_, _, rfl⟩
                          have hctt : r152.toInt = ctT tb tc := hr152.trans (ct_c wb.1 wb.2.1 wb.2.2 wc.1 wc.2.1 wc.2.2)
                          try dsimp only [Option.toList, List.cons_append, List.nil_append, s1C, s2C, dlC, kyC, Nat.beq, lkC, rcd, rno, rsw]
                          intro a153 e153 ob153 fk153
                          cases e153
                          clear fk153 ob153
                          generalize hs153 : pIC σ p1 68 r152 = s153
                          have hX153 : XuC [68, 70, 71] σ s153 p1 := XuC.pI (M := [68, 70, 71]) (XuC.rf) (by decide) hs153
                          have hv153 : r152.toInt = r152.toInt := by omega
                          intro a154 e154 ob154
                          cases e154
                          intro a155 e155 ob155
                          obtain rfl : a = a155 := Option.some.inj (((hX153.1 p1 72 (Or.inl (by decide))).2.2.trans ha).symm.trans e155)
                          have f156 : (fIC s153 a 70).toInt = ta.2.1 := (congrArg Int32.toInt (hX153.1 a 70 (Or.inr na)).1).trans wa.2.1
                          refine ⟨fun h157 => ?_, fun h157 => ?_⟩
                          · have g157 := (eqI (x := (fIC s153 a 70)) (y := 0) h157 : ((fIC s153 a 70) : Int32).toInt = (0 : Int32).toInt)
                            have z0_ : (0 : Int32).toInt = 0 := rfl
                            have hcs : (if (¬ ta.2.1 = 0 ∧ ¬ tb.2.1 = 0) ∧ ¬ tc.2.1 = 0 then (1 : Int) else 0) = 0 := if_neg (by omega)
                            refine hB _ _ _ _ _ (fun m158 hm158 => ?_)
                            dsimp only [ucgo, ucwp, ucsC, uqC, uoC, ctC, rfd, KX3_judgeChoice, KX3_judgeChoice_0, KX3_judgeChoice_10, KX3_judgeChoice_21, KX3_judgeChoice_25, KX3_judgeChoice_26, KX3_judgeChoice_39, KX3_judgeChoice_49, KX3_judgeChoice_61, KX3_judgeChoice_65, KX3_judgeChoice_66, KX3_judgeChoice_79, KX3_judgeChoice_89, KX3_judgeChoice_122, KX3_judgeChoice_126, KX3_judgeChoice_127, KX3_judgeChoice_132, KX3_judgeChoice_133, KX3_judgeChoice_159, KX3_judgeChoice_169, KX3_judgeChoice_179, KX3_judgeChoice_183, KX3_judgeChoice_184, KX3_judgeChoice_200, KX3_judgeChoice_210, KX3_judgeChoice_217, lkC, s1C, s2C, dlC, kyC, Nat.beq, Nat.ble, rcd, rno, rsw, Nat.reduceAdd, Nat.reduceBEq, Nat.reduceDiv, List.drop, List.take, List.reverse, List.reverseAux, Int.toNat, Option.toList, List.append, List.cons_append, List.nil_append, zg62, zg68, zg70, zg71, zg72, zg73, zg74]
                            have c159 : (Int32.ofInt 0).toInt = 0 := by decide
                            refine hB _ _ _ _ _ (fun m160 hm160 => ?_)
                            dsimp only [ucgo, ucwp, ucsC, uqC, uoC, ctC, rfd, KX3_judgeChoice, KX3_judgeChoice_0, KX3_judgeChoice_10, KX3_judgeChoice_21, KX3_judgeChoice_25, KX3_judgeChoice_26, KX3_judgeChoice_39, KX3_judgeChoice_49, KX3_judgeChoice_61, KX3_judgeChoice_65, KX3_judgeChoice_66, KX3_judgeChoice_79, KX3_judgeChoice_89, KX3_judgeChoice_122, KX3_judgeChoice_126, KX3_judgeChoice_127, KX3_judgeChoice_132, KX3_judgeChoice_133, KX3_judgeChoice_159, KX3_judgeChoice_169, KX3_judgeChoice_179, KX3_judgeChoice_183, KX3_judgeChoice_184, KX3_judgeChoice_200, KX3_judgeChoice_210, KX3_judgeChoice_217, lkC, s1C, s2C, dlC, kyC, Nat.beq, Nat.ble, rcd, rno, rsw, Nat.reduceAdd, Nat.reduceBEq, Nat.reduceDiv, List.drop, List.take, List.reverse, List.reverseAux, Int.toNat, Option.toList, List.append, List.cons_append, List.nil_append, zg62, zg68, zg70, zg71, zg72, zg73, zg74]
                            intro a161 e161 ob161 fk161
                            cases e161
                            clear fk161 ob161
                            generalize hs161 : pIC s153 p1 70 (Int32.ofInt 0) = s161
                            have hX161 : XuC [68, 70, 71] σ s161 p1 := XuC.pI (M := [68, 70, 71]) hX153 (by decide) hs161
                            have hv161 : (Int32.ofInt 0).toInt = 0 := by omega
                            intro a162 e162 ob162
                            cases e162
                            intro a163 e163 ob163
                            obtain rfl : a = a163 := Option.some.inj (((hX161.1 p1 72 (Or.inl (by decide))).2.2.trans ha).symm.trans e163)
                            have fl164 : (fLC s161 a 71) = fLC σ a 71 := (hX161.1 a 71 (Or.inr na)).2.1
                            have lc165 : (lg_cmp (fLC s161 a 71) (Int64.ofNat ((1 : Fin 2) : Nat))).toInt = 0 → (fLC s161 a 71) = (Int64.ofNat ((1 : Fin 2) : Nat)) := lcmpC
                            have ld165 : (fLC s161 a 71) = (Int64.ofNat ((1 : Fin 2) : Nat)) → (lg_cmp (fLC s161 a 71) (Int64.ofNat ((1 : Fin 2) : Nat))).toInt = 0 := fun e => by rw [e]; exact lcmp0
                            refine ⟨fun h166 => ?_, fun h166 => ?_⟩
                            · have g166 := (neI (x := (lg_cmp (fLC s161 a 71) (Int64.ofNat ((1 : Fin 2) : Nat)))) (y := 0) h166 : ¬ ((lg_cmp (fLC s161 a 71) (Int64.ofNat ((1 : Fin 2) : Nat))) : Int32).toInt = (0 : Int32).toInt)
                              have z0_ : (0 : Int32).toInt = 0 := rfl
                              refine hB _ _ _ _ _ (fun m167 hm167 => ?_)
                              dsimp only [ucgo, ucwp, ucsC, uqC, uoC, ctC, rfd, KX3_judgeChoice, KX3_judgeChoice_0, KX3_judgeChoice_10, KX3_judgeChoice_21, KX3_judgeChoice_25, KX3_judgeChoice_26, KX3_judgeChoice_39, KX3_judgeChoice_49, KX3_judgeChoice_61, KX3_judgeChoice_65, KX3_judgeChoice_66, KX3_judgeChoice_79, KX3_judgeChoice_89, KX3_judgeChoice_122, KX3_judgeChoice_126, KX3_judgeChoice_127, KX3_judgeChoice_132, KX3_judgeChoice_133, KX3_judgeChoice_159, KX3_judgeChoice_169, KX3_judgeChoice_179, KX3_judgeChoice_183, KX3_judgeChoice_184, KX3_judgeChoice_200, KX3_judgeChoice_210, KX3_judgeChoice_217, lkC, s1C, s2C, dlC, kyC, Nat.beq, Nat.ble, rcd, rno, rsw, Nat.reduceAdd, Nat.reduceBEq, Nat.reduceDiv, List.drop, List.take, List.reverse, List.reverseAux, Int.toNat, Option.toList, List.append, List.cons_append, List.nil_append, zg62, zg68, zg70, zg71, zg72, zg73, zg74]
                              intro a168 e168 ob168
                              cases e168
                              intro a169 e169 ob169
                              obtain rfl : c = a169 := Option.some.inj (((hX161.1 p1 74 (Or.inl (by decide))).2.2.trans hc).symm.trans e169)
                              have fl170 : (fLC s161 c 71) = fLC σ c 71 := (hX161.1 c 71 (Or.inr nc)).2.1
                              have hval : (fLC s161 c 71) = (if ta.2.2.1 = 1 then tb.2.2.1 else tc.2.2.1) := by rw [if_neg (show ¬ ta.2.2.1 = 1 from fun q9 => absurd (ld165 ((fl164.trans wa.2.2).trans q9)) (by omega))]; exact (fl170.trans wc.2.2)
                              refine hB _ _ _ _ _ (fun m171 hm171 => ?_)
                              dsimp only [ucgo, ucwp, ucsC, uqC, uoC, ctC, rfd, KX3_judgeChoice, KX3_judgeChoice_0, KX3_judgeChoice_10, KX3_judgeChoice_21, KX3_judgeChoice_25, KX3_judgeChoice_26, KX3_judgeChoice_39, KX3_judgeChoice_49, KX3_judgeChoice_61, KX3_judgeChoice_65, KX3_judgeChoice_66, KX3_judgeChoice_79, KX3_judgeChoice_89, KX3_judgeChoice_122, KX3_judgeChoice_126, KX3_judgeChoice_127, KX3_judgeChoice_132, KX3_judgeChoice_133, KX3_judgeChoice_159, KX3_judgeChoice_169, KX3_judgeChoice_179, KX3_judgeChoice_183, KX3_judgeChoice_184, KX3_judgeChoice_200, KX3_judgeChoice_210, KX3_judgeChoice_217, lkC, s1C, s2C, dlC, kyC, Nat.beq, Nat.ble, rcd, rno, rsw, Nat.reduceAdd, Nat.reduceBEq, Nat.reduceDiv, List.drop, List.take, List.reverse, List.reverseAux, Int.toNat, Option.toList, List.append, List.cons_append, List.nil_append, zg62, zg68, zg70, zg71, zg72, zg73, zg74]
                              intro a172 e172 ob172 fk172
                              cases e172
                              clear fk172 ob172
                              generalize hs172 : pLC s161 p1 71 (fLC s161 c 71) = s172
                              have hX172 : XuC [68, 70, 71] σ s172 p1 := XuC.pL (M := [68, 70, 71]) hX161 (by decide) hs172
                              try dsimp only [Qz_judgeChoice]
                              exact fun τ9 h9 => ⟨rfl, JqC.we h9 (Or.inr ⟨(ctT tb tc, (if (¬ ta.2.1 = 0 ∧ ¬ tb.2.1 = 0) ∧ ¬ tc.2.1 = 0 then (1 : Int) else 0), if ta.2.2.1 = 1 then tb.2.2.1 else tc.2.2.1, t.2.2.2), by unfold x8T; rw [if_pos (by unfold rtT nuT at *; omega)], XuC.er (M := [68, 70, 71]) hX172 (by decide) he, hX172, ⟨(congrArg Int32.toInt ((pL_oi hs172).trans ((pI_o hs161 (by decide)).trans (pI_g hs153)))).trans (by rw [← hctt]), (congrArg Int32.toInt ((pL_oi hs172).trans (pI_g hs161))).trans (by rw [hcs]; omega), (pL_g hs172).trans (by exact hval)⟩, rfl⟩)⟩
                            · have g166 := (eqI (x := (lg_cmp (fLC s161 a 71) (Int64.ofNat ((1 : Fin 2) : Nat)))) (y := 0) h166 : ((lg_cmp (fLC s161 a 71) (Int64.ofNat ((1 : Fin 2) : Nat))) : Int32).toInt = (0 : Int32).toInt)
                              have z0_ : (0 : Int32).toInt = 0 := rfl
                              refine hB _ _ _ _ _ (fun m173 hm173 => ?_)
                              dsimp only [ucgo, ucwp, ucsC, uqC, uoC, ctC, rfd, KX3_judgeChoice, KX3_judgeChoice_0, KX3_judgeChoice_10, KX3_judgeChoice_21, KX3_judgeChoice_25, KX3_judgeChoice_26, KX3_judgeChoice_39, KX3_judgeChoice_49, KX3_judgeChoice_61, KX3_judgeChoice_65, KX3_judgeChoice_66, KX3_judgeChoice_79, KX3_judgeChoice_89, KX3_judgeChoice_122, KX3_judgeChoice_126, KX3_judgeChoice_127, KX3_judgeChoice_132, KX3_judgeChoice_133, KX3_judgeChoice_159, KX3_judgeChoice_169, KX3_judgeChoice_179, KX3_judgeChoice_183, KX3_judgeChoice_184, KX3_judgeChoice_200, KX3_judgeChoice_210, KX3_judgeChoice_217, lkC, s1C, s2C, dlC, kyC, Nat.beq, Nat.ble, rcd, rno, rsw, Nat.reduceAdd, Nat.reduceBEq, Nat.reduceDiv, List.drop, List.take, List.reverse, List.reverseAux, Int.toNat, Option.toList, List.append, List.cons_append, List.nil_append, zg62, zg68, zg70, zg71, zg72, zg73, zg74]
                              intro a174 e174 ob174
                              cases e174
                              intro a175 e175 ob175
                              obtain rfl : b = a175 := Option.some.inj (((hX161.1 p1 73 (Or.inl (by decide))).2.2.trans hb).symm.trans e175)
                              have fl176 : (fLC s161 b 71) = fLC σ b 71 := (hX161.1 b 71 (Or.inr nb)).2.1
                              have hval : (fLC s161 b 71) = (if ta.2.2.1 = 1 then tb.2.2.1 else tc.2.2.1) := by rw [if_pos (show ta.2.2.1 = 1 from (fl164.trans wa.2.2).symm.trans (lc165 (by omega)))]; exact (fl176.trans wb.2.2)
                              refine hB _ _ _ _ _ (fun m177 hm177 => ?_)
                              dsimp only [ucgo, ucwp, ucsC, uqC, uoC, ctC, rfd, KX3_judgeChoice, KX3_judgeChoice_0, KX3_judgeChoice_10, KX3_judgeChoice_21, KX3_judgeChoice_25, KX3_judgeChoice_26, KX3_judgeChoice_39, KX3_judgeChoice_49, KX3_judgeChoice_61, KX3_judgeChoice_65, KX3_judgeChoice_66, KX3_judgeChoice_79, KX3_judgeChoice_89, KX3_judgeChoice_122, KX3_judgeChoice_126, KX3_judgeChoice_127, KX3_judgeChoice_132, KX3_judgeChoice_133, KX3_judgeChoice_159, KX3_judgeChoice_169, KX3_judgeChoice_179, KX3_judgeChoice_183, KX3_judgeChoice_184, KX3_judgeChoice_200, KX3_judgeChoice_210, KX3_judgeChoice_217, lkC, s1C, s2C, dlC, kyC, Nat.beq, Nat.ble, rcd, rno, rsw, Nat.reduceAdd, Nat.reduceBEq, Nat.reduceDiv, List.drop, List.take, List.reverse, List.reverseAux, Int.toNat, Option.toList, List.append, List.cons_append, List.nil_append, zg62, zg68, zg70, zg71, zg72, zg73, zg74]
                              intro a178 e178 ob178 fk178
                              cases e178
                              clear fk178 ob178
                              generalize hs178 : pLC s161 p1 71 (fLC s161 b 71) = s178
                              have hX178 : XuC [68, 70, 71] σ s178 p1 := XuC.pL (M := [68, 70, 71]) hX161 (by decide) hs178
                              try dsimp only [Qz_judgeChoice]
                              exact fun τ9 h9 => ⟨rfl, JqC.we h9 (Or.inr ⟨(ctT tb tc, (if (¬ ta.2.1 = 0 ∧ ¬ tb.2.1 = 0) ∧ ¬ tc.2.1 = 0 then (1 : Int) else 0), if ta.2.2.1 = 1 then tb.2.2.1 else tc.2.2.1, t.2.2.2), by unfold x8T; rw [if_pos (by unfold rtT nuT at *; omega)], XuC.er (M := [68, 70, 71]) hX178 (by decide) he, hX178, ⟨(congrArg Int32.toInt ((pL_oi hs178).trans ((pI_o hs161 (by decide)).trans (pI_g hs153)))).trans (by rw [← hctt]), (congrArg Int32.toInt ((pL_oi hs178).trans (pI_g hs161))).trans (by rw [hcs]; omega), (pL_g hs178).trans (by exact hval)⟩, rfl⟩)⟩
                          · have g157 := (neI (x := (fIC s153 a 70)) (y := 0) h157 : ¬ ((fIC s153 a 70) : Int32).toInt = (0 : Int32).toInt)
                            have z0_ : (0 : Int32).toInt = 0 := rfl
                            refine hB _ _ _ _ _ (fun m179 hm179 => ?_)
                            dsimp only [ucgo, ucwp, ucsC, uqC, uoC, ctC, rfd, KX3_judgeChoice, KX3_judgeChoice_0, KX3_judgeChoice_10, KX3_judgeChoice_21, KX3_judgeChoice_25, KX3_judgeChoice_26, KX3_judgeChoice_39, KX3_judgeChoice_49, KX3_judgeChoice_61, KX3_judgeChoice_65, KX3_judgeChoice_66, KX3_judgeChoice_79, KX3_judgeChoice_89, KX3_judgeChoice_122, KX3_judgeChoice_126, KX3_judgeChoice_127, KX3_judgeChoice_132, KX3_judgeChoice_133, KX3_judgeChoice_159, KX3_judgeChoice_169, KX3_judgeChoice_179, KX3_judgeChoice_183, KX3_judgeChoice_184, KX3_judgeChoice_200, KX3_judgeChoice_210, KX3_judgeChoice_217, lkC, s1C, s2C, dlC, kyC, Nat.beq, Nat.ble, rcd, rno, rsw, Nat.reduceAdd, Nat.reduceBEq, Nat.reduceDiv, List.drop, List.take, List.reverse, List.reverseAux, Int.toNat, Option.toList, List.append, List.cons_append, List.nil_append, zg62, zg68, zg70, zg71, zg72, zg73, zg74]
                            intro a180 e180 ob180
                            cases e180
                            intro a181 e181 ob181
                            obtain rfl : b = a181 := Option.some.inj (((hX153.1 p1 73 (Or.inl (by decide))).2.2.trans hb).symm.trans e181)
                            have f182 : (fIC s153 b 70).toInt = tb.2.1 := (congrArg Int32.toInt (hX153.1 b 70 (Or.inr nb)).1).trans wb.2.1
                            refine ⟨fun h183 => ?_, fun h183 => ?_⟩
                            · have g183 := (eqI (x := (fIC s153 b 70)) (y := 0) h183 : ((fIC s153 b 70) : Int32).toInt = (0 : Int32).toInt)
                              have z0_ : (0 : Int32).toInt = 0 := rfl
                              have hcs : (if (¬ ta.2.1 = 0 ∧ ¬ tb.2.1 = 0) ∧ ¬ tc.2.1 = 0 then (1 : Int) else 0) = 0 := if_neg (by omega)
                              refine hB _ _ _ _ _ (fun m184 hm184 => ?_)
                              dsimp only [ucgo, ucwp, ucsC, uqC, uoC, ctC, rfd, KX3_judgeChoice, KX3_judgeChoice_0, KX3_judgeChoice_10, KX3_judgeChoice_21, KX3_judgeChoice_25, KX3_judgeChoice_26, KX3_judgeChoice_39, KX3_judgeChoice_49, KX3_judgeChoice_61, KX3_judgeChoice_65, KX3_judgeChoice_66, KX3_judgeChoice_79, KX3_judgeChoice_89, KX3_judgeChoice_122, KX3_judgeChoice_126, KX3_judgeChoice_127, KX3_judgeChoice_132, KX3_judgeChoice_133, KX3_judgeChoice_159, KX3_judgeChoice_169, KX3_judgeChoice_179, KX3_judgeChoice_183, KX3_judgeChoice_184, KX3_judgeChoice_200, KX3_judgeChoice_210, KX3_judgeChoice_217, lkC, s1C, s2C, dlC, kyC, Nat.beq, Nat.ble, rcd, rno, rsw, Nat.reduceAdd, Nat.reduceBEq, Nat.reduceDiv, List.drop, List.take, List.reverse, List.reverseAux, Int.toNat, Option.toList, List.append, List.cons_append, List.nil_append, zg62, zg68, zg70, zg71, zg72, zg73, zg74]
                              have c185 : (Int32.ofInt 0).toInt = 0 := by decide
                              refine hB _ _ _ _ _ (fun m186 hm186 => ?_)
                              dsimp only [ucgo, ucwp, ucsC, uqC, uoC, ctC, rfd, KX3_judgeChoice, KX3_judgeChoice_0, KX3_judgeChoice_10, KX3_judgeChoice_21, KX3_judgeChoice_25, KX3_judgeChoice_26, KX3_judgeChoice_39, KX3_judgeChoice_49, KX3_judgeChoice_61, KX3_judgeChoice_65, KX3_judgeChoice_66, KX3_judgeChoice_79, KX3_judgeChoice_89, KX3_judgeChoice_122, KX3_judgeChoice_126, KX3_judgeChoice_127, KX3_judgeChoice_132, KX3_judgeChoice_133, KX3_judgeChoice_159, KX3_judgeChoice_169, KX3_judgeChoice_179, KX3_judgeChoice_183, KX3_judgeChoice_184, KX3_judgeChoice_200, KX3_judgeChoice_210, KX3_judgeChoice_217, lkC, s1C, s2C, dlC, kyC, Nat.beq, Nat.ble, rcd, rno, rsw, Nat.reduceAdd, Nat.reduceBEq, Nat.reduceDiv, List.drop, List.take, List.reverse, List.reverseAux, Int.toNat, Option.toList, List.append, List.cons_append, List.nil_append, zg62, zg68, zg70, zg71, zg72, zg73, zg74]
                              intro a187 e187 ob187 fk187
                              cases e187
                              clear fk187 ob187
                              generalize hs187 : pIC s153 p1 70 (Int32.ofInt 0) = s187
                              have hX187 : XuC [68, 70, 71] σ s187 p1 := XuC.pI (M := [68, 70, 71]) hX153 (by decide) hs187
                              have hv187 : (Int32.ofInt 0).toInt = 0 := by omega
                              intro a188 e188 ob188
                              cases e188
                              intro a189 e189 ob189
                              obtain rfl : a = a189 := Option.some.inj (((hX187.1 p1 72 (Or.inl (by decide))).2.2.trans ha).symm.trans e189)
                              have fl190 : (fLC s187 a 71) = fLC σ a 71 := (hX187.1 a 71 (Or.inr na)).2.1
                              have lc191 : (lg_cmp (fLC s187 a 71) (Int64.ofNat ((1 : Fin 2) : Nat))).toInt = 0 → (fLC s187 a 71) = (Int64.ofNat ((1 : Fin 2) : Nat)) := lcmpC
                              have ld191 : (fLC s187 a 71) = (Int64.ofNat ((1 : Fin 2) : Nat)) → (lg_cmp (fLC s187 a 71) (Int64.ofNat ((1 : Fin 2) : Nat))).toInt = 0 := fun e => by rw [e]; exact lcmp0
                              refine ⟨fun h192 => ?_, fun h192 => ?_⟩
                              · have g192 := (neI (x := (lg_cmp (fLC s187 a 71) (Int64.ofNat ((1 : Fin 2) : Nat)))) (y := 0) h192 : ¬ ((lg_cmp (fLC s187 a 71) (Int64.ofNat ((1 : Fin 2) : Nat))) : Int32).toInt = (0 : Int32).toInt)
                                have z0_ : (0 : Int32).toInt = 0 := rfl
                                refine hB _ _ _ _ _ (fun m193 hm193 => ?_)
                                dsimp only [ucgo, ucwp, ucsC, uqC, uoC, ctC, rfd, KX3_judgeChoice, KX3_judgeChoice_0, KX3_judgeChoice_10, KX3_judgeChoice_21, KX3_judgeChoice_25, KX3_judgeChoice_26, KX3_judgeChoice_39, KX3_judgeChoice_49, KX3_judgeChoice_61, KX3_judgeChoice_65, KX3_judgeChoice_66, KX3_judgeChoice_79, KX3_judgeChoice_89, KX3_judgeChoice_122, KX3_judgeChoice_126, KX3_judgeChoice_127, KX3_judgeChoice_132, KX3_judgeChoice_133, KX3_judgeChoice_159, KX3_judgeChoice_169, KX3_judgeChoice_179, KX3_judgeChoice_183, KX3_judgeChoice_184, KX3_judgeChoice_200, KX3_judgeChoice_210, KX3_judgeChoice_217, lkC, s1C, s2C, dlC, kyC, Nat.beq, Nat.ble, rcd, rno, rsw, Nat.reduceAdd, Nat.reduceBEq, Nat.reduceDiv, List.drop, List.take, List.reverse, List.reverseAux, Int.toNat, Option.toList, List.append, List.cons_append, List.nil_append, zg62, zg68, zg70, zg71, zg72, zg73, zg74]
                                intro a194 e194 ob194
                                cases e194
                                intro a195 e195 ob195
                                obtain rfl : c = a195 := Option.some.inj (((hX187.1 p1 74 (Or.inl (by decide))).2.2.trans hc).symm.trans e195)
                                have fl196 : (fLC s187 c 71) = fLC σ c 71 := (hX187.1 c 71 (Or.inr nc)).2.1
                                have hval : (fLC s187 c 71) = (if ta.2.2.1 = 1 then tb.2.2.1 else tc.2.2.1) := by rw [if_neg (show ¬ ta.2.2.1 = 1 from fun q9 => absurd (ld191 ((fl190.trans wa.2.2).trans q9)) (by omega))]; exact (fl196.trans wc.2.2)
                                refine hB _ _ _ _ _ (fun m197 hm197 => ?_)
                                dsimp only [ucgo, ucwp, ucsC, uqC, uoC, ctC, rfd, KX3_judgeChoice, KX3_judgeChoice_0, KX3_judgeChoice_10, KX3_judgeChoice_21, KX3_judgeChoice_25, KX3_judgeChoice_26, KX3_judgeChoice_39, KX3_judgeChoice_49, KX3_judgeChoice_61, KX3_judgeChoice_65, KX3_judgeChoice_66, KX3_judgeChoice_79, KX3_judgeChoice_89, KX3_judgeChoice_122, KX3_judgeChoice_126, KX3_judgeChoice_127, KX3_judgeChoice_132, KX3_judgeChoice_133, KX3_judgeChoice_159, KX3_judgeChoice_169, KX3_judgeChoice_179, KX3_judgeChoice_183, KX3_judgeChoice_184, KX3_judgeChoice_200, KX3_judgeChoice_210, KX3_judgeChoice_217, lkC, s1C, s2C, dlC, kyC, Nat.beq, Nat.ble, rcd, rno, rsw, Nat.reduceAdd, Nat.reduceBEq, Nat.reduceDiv, List.drop, List.take, List.reverse, List.reverseAux, Int.toNat, Option.toList, List.append, List.cons_append, List.nil_append, zg62, zg68, zg70, zg71, zg72, zg73, zg74]
                                intro a198 e198 ob198 fk198
                                cases e198
                                clear fk198 ob198
                                generalize hs198 : pLC s187 p1 71 (fLC s187 c 71) = s198
                                have hX198 : XuC [68, 70, 71] σ s198 p1 := XuC.pL (M := [68, 70, 71]) hX187 (by decide) hs198
                                try dsimp only [Qz_judgeChoice]
                                exact fun τ9 h9 => ⟨rfl, JqC.we h9 (Or.inr ⟨(ctT tb tc, (if (¬ ta.2.1 = 0 ∧ ¬ tb.2.1 = 0) ∧ ¬ tc.2.1 = 0 then (1 : Int) else 0), if ta.2.2.1 = 1 then tb.2.2.1 else tc.2.2.1, t.2.2.2), by unfold x8T; rw [if_pos (by unfold rtT nuT at *; omega)], XuC.er (M := [68, 70, 71]) hX198 (by decide) he, hX198, ⟨(congrArg Int32.toInt ((pL_oi hs198).trans ((pI_o hs187 (by decide)).trans (pI_g hs153)))).trans (by rw [← hctt]), (congrArg Int32.toInt ((pL_oi hs198).trans (pI_g hs187))).trans (by rw [hcs]; omega), (pL_g hs198).trans (by exact hval)⟩, rfl⟩)⟩
                              · have g192 := (eqI (x := (lg_cmp (fLC s187 a 71) (Int64.ofNat ((1 : Fin 2) : Nat)))) (y := 0) h192 : ((lg_cmp (fLC s187 a 71) (Int64.ofNat ((1 : Fin 2) : Nat))) : Int32).toInt = (0 : Int32).toInt)
                                have z0_ : (0 : Int32).toInt = 0 := rfl
                                refine hB _ _ _ _ _ (fun m199 hm199 => ?_)
                                dsimp only [ucgo, ucwp, ucsC, uqC, uoC, ctC, rfd, KX3_judgeChoice, KX3_judgeChoice_0, KX3_judgeChoice_10, KX3_judgeChoice_21, KX3_judgeChoice_25, KX3_judgeChoice_26, KX3_judgeChoice_39, KX3_judgeChoice_49, KX3_judgeChoice_61, KX3_judgeChoice_65, KX3_judgeChoice_66, KX3_judgeChoice_79, KX3_judgeChoice_89, KX3_judgeChoice_122, KX3_judgeChoice_126, KX3_judgeChoice_127, KX3_judgeChoice_132, KX3_judgeChoice_133, KX3_judgeChoice_159, KX3_judgeChoice_169, KX3_judgeChoice_179, KX3_judgeChoice_183, KX3_judgeChoice_184, KX3_judgeChoice_200, KX3_judgeChoice_210, KX3_judgeChoice_217, lkC, s1C, s2C, dlC, kyC, Nat.beq, Nat.ble, rcd, rno, rsw, Nat.reduceAdd, Nat.reduceBEq, Nat.reduceDiv, List.drop, List.take, List.reverse, List.reverseAux, Int.toNat, Option.toList, List.append, List.cons_append, List.nil_append, zg62, zg68, zg70, zg71, zg72, zg73, zg74]
                                intro a200 e200 ob200
                                cases e200
                                intro a201 e201 ob201
                                obtain rfl : b = a201 := Option.some.inj (((hX187.1 p1 73 (Or.inl (by decide))).2.2.trans hb).symm.trans e201)
                                have fl202 : (fLC s187 b 71) = fLC σ b 71 := (hX187.1 b 71 (Or.inr nb)).2.1
                                have hval : (fLC s187 b 71) = (if ta.2.2.1 = 1 then tb.2.2.1 else tc.2.2.1) := by rw [if_pos (show ta.2.2.1 = 1 from (fl190.trans wa.2.2).symm.trans (lc191 (by omega)))]; exact (fl202.trans wb.2.2)
                                refine hB _ _ _ _ _ (fun m203 hm203 => ?_)
                                dsimp only [ucgo, ucwp, ucsC, uqC, uoC, ctC, rfd, KX3_judgeChoice, KX3_judgeChoice_0, KX3_judgeChoice_10, KX3_judgeChoice_21, KX3_judgeChoice_25, KX3_judgeChoice_26, KX3_judgeChoice_39, KX3_judgeChoice_49, KX3_judgeChoice_61, KX3_judgeChoice_65, KX3_judgeChoice_66, KX3_judgeChoice_79, KX3_judgeChoice_89, KX3_judgeChoice_122, KX3_judgeChoice_126, KX3_judgeChoice_127, KX3_judgeChoice_132, KX3_judgeChoice_133, KX3_judgeChoice_159, KX3_judgeChoice_169, KX3_judgeChoice_179, KX3_judgeChoice_183, KX3_judgeChoice_184, KX3_judgeChoice_200, KX3_judgeChoice_210, KX3_judgeChoice_217, lkC, s1C, s2C, dlC, kyC, Nat.beq, Nat.ble, rcd, rno, rsw, Nat.reduceAdd, Nat.reduceBEq, Nat.reduceDiv, List.drop, List.take, List.reverse, List.reverseAux, Int.toNat, Option.toList, List.append, List.cons_append, List.nil_append, zg62, zg68, zg70, zg71, zg72, zg73, zg74]
                                intro a204 e204 ob204 fk204
                                cases e204
                                clear fk204 ob204
                                generalize hs204 : pLC s187 p1 71 (fLC s187 b 71) = s204
                                have hX204 : XuC [68, 70, 71] σ s204 p1 := XuC.pL (M := [68, 70, 71]) hX187 (by decide) hs204
                                try dsimp only [Qz_judgeChoice]
                                exact fun τ9 h9 => ⟨rfl, JqC.we h9 (Or.inr ⟨(ctT tb tc, (if (¬ ta.2.1 = 0 ∧ ¬ tb.2.1 = 0) ∧ ¬ tc.2.1 = 0 then (1 : Int) else 0), if ta.2.2.1 = 1 then tb.2.2.1 else tc.2.2.1, t.2.2.2), by unfold x8T; rw [if_pos (by unfold rtT nuT at *; omega)], XuC.er (M := [68, 70, 71]) hX204 (by decide) he, hX204, ⟨(congrArg Int32.toInt ((pL_oi hs204).trans ((pI_o hs187 (by decide)).trans (pI_g hs153)))).trans (by rw [← hctt]), (congrArg Int32.toInt ((pL_oi hs204).trans (pI_g hs187))).trans (by rw [hcs]; omega), (pL_g hs204).trans (by exact hval)⟩, rfl⟩)⟩
                            · have g183 := (neI (x := (fIC s153 b 70)) (y := 0) h183 : ¬ ((fIC s153 b 70) : Int32).toInt = (0 : Int32).toInt)
                              have z0_ : (0 : Int32).toInt = 0 := rfl
                              refine hB _ _ _ _ _ (fun m205 hm205 => ?_)
                              dsimp only [ucgo, ucwp, ucsC, uqC, uoC, ctC, rfd, KX3_judgeChoice, KX3_judgeChoice_0, KX3_judgeChoice_10, KX3_judgeChoice_21, KX3_judgeChoice_25, KX3_judgeChoice_26, KX3_judgeChoice_39, KX3_judgeChoice_49, KX3_judgeChoice_61, KX3_judgeChoice_65, KX3_judgeChoice_66, KX3_judgeChoice_79, KX3_judgeChoice_89, KX3_judgeChoice_122, KX3_judgeChoice_126, KX3_judgeChoice_127, KX3_judgeChoice_132, KX3_judgeChoice_133, KX3_judgeChoice_159, KX3_judgeChoice_169, KX3_judgeChoice_179, KX3_judgeChoice_183, KX3_judgeChoice_184, KX3_judgeChoice_200, KX3_judgeChoice_210, KX3_judgeChoice_217, lkC, s1C, s2C, dlC, kyC, Nat.beq, Nat.ble, rcd, rno, rsw, Nat.reduceAdd, Nat.reduceBEq, Nat.reduceDiv, List.drop, List.take, List.reverse, List.reverseAux, Int.toNat, Option.toList, List.append, List.cons_append, List.nil_append, zg62, zg68, zg70, zg71, zg72, zg73, zg74]
                              intro a206 e206 ob206
                              cases e206
                              intro a207 e207 ob207
                              obtain rfl : c = a207 := Option.some.inj (((hX153.1 p1 74 (Or.inl (by decide))).2.2.trans hc).symm.trans e207)
                              have f208 : (fIC s153 c 70).toInt = tc.2.1 := (congrArg Int32.toInt (hX153.1 c 70 (Or.inr nc)).1).trans wc.2.1
                              refine ⟨fun h209 => ?_, fun h209 => ?_⟩
                              · have g209 := (eqI (x := (fIC s153 c 70)) (y := 0) h209 : ((fIC s153 c 70) : Int32).toInt = (0 : Int32).toInt)
                                have z0_ : (0 : Int32).toInt = 0 := rfl
                                have hcs : (if (¬ ta.2.1 = 0 ∧ ¬ tb.2.1 = 0) ∧ ¬ tc.2.1 = 0 then (1 : Int) else 0) = 0 := if_neg (by omega)
                                refine hB _ _ _ _ _ (fun m210 hm210 => ?_)
                                dsimp only [ucgo, ucwp, ucsC, uqC, uoC, ctC, rfd, KX3_judgeChoice, KX3_judgeChoice_0, KX3_judgeChoice_10, KX3_judgeChoice_21, KX3_judgeChoice_25, KX3_judgeChoice_26, KX3_judgeChoice_39, KX3_judgeChoice_49, KX3_judgeChoice_61, KX3_judgeChoice_65, KX3_judgeChoice_66, KX3_judgeChoice_79, KX3_judgeChoice_89, KX3_judgeChoice_122, KX3_judgeChoice_126, KX3_judgeChoice_127, KX3_judgeChoice_132, KX3_judgeChoice_133, KX3_judgeChoice_159, KX3_judgeChoice_169, KX3_judgeChoice_179, KX3_judgeChoice_183, KX3_judgeChoice_184, KX3_judgeChoice_200, KX3_judgeChoice_210, KX3_judgeChoice_217, lkC, s1C, s2C, dlC, kyC, Nat.beq, Nat.ble, rcd, rno, rsw, Nat.reduceAdd, Nat.reduceBEq, Nat.reduceDiv, List.drop, List.take, List.reverse, List.reverseAux, Int.toNat, Option.toList, List.append, List.cons_append, List.nil_append, zg62, zg68, zg70, zg71, zg72, zg73, zg74]
                                have c211 : (Int32.ofInt 0).toInt = 0 := by decide
                                refine hB _ _ _ _ _ (fun m212 hm212 => ?_)
                                dsimp only [ucgo, ucwp, ucsC, uqC, uoC, ctC, rfd, KX3_judgeChoice, KX3_judgeChoice_0, KX3_judgeChoice_10, KX3_judgeChoice_21, KX3_judgeChoice_25, KX3_judgeChoice_26, KX3_judgeChoice_39, KX3_judgeChoice_49, KX3_judgeChoice_61, KX3_judgeChoice_65, KX3_judgeChoice_66, KX3_judgeChoice_79, KX3_judgeChoice_89, KX3_judgeChoice_122, KX3_judgeChoice_126, KX3_judgeChoice_127, KX3_judgeChoice_132, KX3_judgeChoice_133, KX3_judgeChoice_159, KX3_judgeChoice_169, KX3_judgeChoice_179, KX3_judgeChoice_183, KX3_judgeChoice_184, KX3_judgeChoice_200, KX3_judgeChoice_210, KX3_judgeChoice_217, lkC, s1C, s2C, dlC, kyC, Nat.beq, Nat.ble, rcd, rno, rsw, Nat.reduceAdd, Nat.reduceBEq, Nat.reduceDiv, List.drop, List.take, List.reverse, List.reverseAux, Int.toNat, Option.toList, List.append, List.cons_append, List.nil_append, zg62, zg68, zg70, zg71, zg72, zg73, zg74]
                                intro a213 e213 ob213 fk213
                                cases e213
                                clear fk213 ob213
                                generalize hs213 : pIC s153 p1 70 (Int32.ofInt 0) = s213
                                have hX213 : XuC [68, 70, 71] σ s213 p1 := XuC.pI (M := [68, 70, 71]) hX153 (by decide) hs213
                                have hv213 : (Int32.ofInt 0).toInt = 0 := by omega
                                intro a214 e214 ob214
                                cases e214
                                intro a215 e215 ob215
                                obtain rfl : a = a215 := Option.some.inj (((hX213.1 p1 72 (Or.inl (by decide))).2.2.trans ha).symm.trans e215)
                                have fl216 : (fLC s213 a 71) = fLC σ a 71 := (hX213.1 a 71 (Or.inr na)).2.1
                                have lc217 : (lg_cmp (fLC s213 a 71) (Int64.ofNat ((1 : Fin 2) : Nat))).toInt = 0 → (fLC s213 a 71) = (Int64.ofNat ((1 : Fin 2) : Nat)) := lcmpC
                                have ld217 : (fLC s213 a 71) = (Int64.ofNat ((1 : Fin 2) : Nat)) → (lg_cmp (fLC s213 a 71) (Int64.ofNat ((1 : Fin 2) : Nat))).toInt = 0 := fun e => by rw [e]; exact lcmp0
                                refine ⟨fun h218 => ?_, fun h218 => ?_⟩
                                · have g218 := (neI (x := (lg_cmp (fLC s213 a 71) (Int64.ofNat ((1 : Fin 2) : Nat)))) (y := 0) h218 : ¬ ((lg_cmp (fLC s213 a 71) (Int64.ofNat ((1 : Fin 2) : Nat))) : Int32).toInt = (0 : Int32).toInt)
                                  have z0_ : (0 : Int32).toInt = 0 := rfl
                                  refine hB _ _ _ _ _ (fun m219 hm219 => ?_)
                                  dsimp only [ucgo, ucwp, ucsC, uqC, uoC, ctC, rfd, KX3_judgeChoice, KX3_judgeChoice_0, KX3_judgeChoice_10, KX3_judgeChoice_21, KX3_judgeChoice_25, KX3_judgeChoice_26, KX3_judgeChoice_39, KX3_judgeChoice_49, KX3_judgeChoice_61, KX3_judgeChoice_65, KX3_judgeChoice_66, KX3_judgeChoice_79, KX3_judgeChoice_89, KX3_judgeChoice_122, KX3_judgeChoice_126, KX3_judgeChoice_127, KX3_judgeChoice_132, KX3_judgeChoice_133, KX3_judgeChoice_159, KX3_judgeChoice_169, KX3_judgeChoice_179, KX3_judgeChoice_183, KX3_judgeChoice_184, KX3_judgeChoice_200, KX3_judgeChoice_210, KX3_judgeChoice_217, lkC, s1C, s2C, dlC, kyC, Nat.beq, Nat.ble, rcd, rno, rsw, Nat.reduceAdd, Nat.reduceBEq, Nat.reduceDiv, List.drop, List.take, List.reverse, List.reverseAux, Int.toNat, Option.toList, List.append, List.cons_append, List.nil_append, zg62, zg68, zg70, zg71, zg72, zg73, zg74]
                                  intro a220 e220 ob220
                                  cases e220
                                  intro a221 e221 ob221
                                  obtain rfl : c = a221 := Option.some.inj (((hX213.1 p1 74 (Or.inl (by decide))).2.2.trans hc).symm.trans e221)
                                  have fl222 : (fLC s213 c 71) = fLC σ c 71 := (hX213.1 c 71 (Or.inr nc)).2.1
                                  have hval : (fLC s213 c 71) = (if ta.2.2.1 = 1 then tb.2.2.1 else tc.2.2.1) := by rw [if_neg (show ¬ ta.2.2.1 = 1 from fun q9 => absurd (ld217 ((fl216.trans wa.2.2).trans q9)) (by omega))]; exact (fl222.trans wc.2.2)
                                  refine hB _ _ _ _ _ (fun m223 hm223 => ?_)
                                  dsimp only [ucgo, ucwp, ucsC, uqC, uoC, ctC, rfd, KX3_judgeChoice, KX3_judgeChoice_0, KX3_judgeChoice_10, KX3_judgeChoice_21, KX3_judgeChoice_25, KX3_judgeChoice_26, KX3_judgeChoice_39, KX3_judgeChoice_49, KX3_judgeChoice_61, KX3_judgeChoice_65, KX3_judgeChoice_66, KX3_judgeChoice_79, KX3_judgeChoice_89, KX3_judgeChoice_122, KX3_judgeChoice_126, KX3_judgeChoice_127, KX3_judgeChoice_132, KX3_judgeChoice_133, KX3_judgeChoice_159, KX3_judgeChoice_169, KX3_judgeChoice_179, KX3_judgeChoice_183, KX3_judgeChoice_184, KX3_judgeChoice_200, KX3_judgeChoice_210, KX3_judgeChoice_217, lkC, s1C, s2C, dlC, kyC, Nat.beq, Nat.ble, rcd, rno, rsw, Nat.reduceAdd, Nat.reduceBEq, Nat.reduceDiv, List.drop, List.take, List.reverse, List.reverseAux, Int.toNat, Option.toList, List.append, List.cons_append, List.nil_append, zg62, zg68, zg70, zg71, zg72, zg73, zg74]
                                  intro a224 e224 ob224 fk224
                                  cases e224
                                  clear fk224 ob224
                                  generalize hs224 : pLC s213 p1 71 (fLC s213 c 71) = s224
                                  have hX224 : XuC [68, 70, 71] σ s224 p1 := XuC.pL (M := [68, 70, 71]) hX213 (by decide) hs224
                                  try dsimp only [Qz_judgeChoice]
                                  exact fun τ9 h9 => ⟨rfl, JqC.we h9 (Or.inr ⟨(ctT tb tc, (if (¬ ta.2.1 = 0 ∧ ¬ tb.2.1 = 0) ∧ ¬ tc.2.1 = 0 then (1 : Int) else 0), if ta.2.2.1 = 1 then tb.2.2.1 else tc.2.2.1, t.2.2.2), by unfold x8T; rw [if_pos (by unfold rtT nuT at *; omega)], XuC.er (M := [68, 70, 71]) hX224 (by decide) he, hX224, ⟨(congrArg Int32.toInt ((pL_oi hs224).trans ((pI_o hs213 (by decide)).trans (pI_g hs153)))).trans (by rw [← hctt]), (congrArg Int32.toInt ((pL_oi hs224).trans (pI_g hs213))).trans (by rw [hcs]; omega), (pL_g hs224).trans (by exact hval)⟩, rfl⟩)⟩
                                · have g218 := (eqI (x := (lg_cmp (fLC s213 a 71) (Int64.ofNat ((1 : Fin 2) : Nat)))) (y := 0) h218 : ((lg_cmp (fLC s213 a 71) (Int64.ofNat ((1 : Fin 2) : Nat))) : Int32).toInt = (0 : Int32).toInt)
                                  have z0_ : (0 : Int32).toInt = 0 := rfl
                                  refine hB _ _ _ _ _ (fun m225 hm225 => ?_)
                                  dsimp only [ucgo, ucwp, ucsC, uqC, uoC, ctC, rfd, KX3_judgeChoice, KX3_judgeChoice_0, KX3_judgeChoice_10, KX3_judgeChoice_21, KX3_judgeChoice_25, KX3_judgeChoice_26, KX3_judgeChoice_39, KX3_judgeChoice_49, KX3_judgeChoice_61, KX3_judgeChoice_65, KX3_judgeChoice_66, KX3_judgeChoice_79, KX3_judgeChoice_89, KX3_judgeChoice_122, KX3_judgeChoice_126, KX3_judgeChoice_127, KX3_judgeChoice_132, KX3_judgeChoice_133, KX3_judgeChoice_159, KX3_judgeChoice_169, KX3_judgeChoice_179, KX3_judgeChoice_183, KX3_judgeChoice_184, KX3_judgeChoice_200, KX3_judgeChoice_210, KX3_judgeChoice_217, lkC, s1C, s2C, dlC, kyC, Nat.beq, Nat.ble, rcd, rno, rsw, Nat.reduceAdd, Nat.reduceBEq, Nat.reduceDiv, List.drop, List.take, List.reverse, List.reverseAux, Int.toNat, Option.toList, List.append, List.cons_append, List.nil_append, zg62, zg68, zg70, zg71, zg72, zg73, zg74]
                                  intro a226 e226 ob226
                                  cases e226
                                  intro a227 e227 ob227
                                  obtain rfl : b = a227 := Option.some.inj (((hX213.1 p1 73 (Or.inl (by decide))).2.2.trans hb).symm.trans e227)
                                  have fl228 : (fLC s213 b 71) = fLC σ b 71 := (hX213.1 b 71 (Or.inr nb)).2.1
                                  have hval : (fLC s213 b 71) = (if ta.2.2.1 = 1 then tb.2.2.1 else tc.2.2.1) := by rw [if_pos (show ta.2.2.1 = 1 from (fl216.trans wa.2.2).symm.trans (lc217 (by omega)))]; exact (fl228.trans wb.2.2)
                                  refine hB _ _ _ _ _ (fun m229 hm229 => ?_)
                                  dsimp only [ucgo, ucwp, ucsC, uqC, uoC, ctC, rfd, KX3_judgeChoice, KX3_judgeChoice_0, KX3_judgeChoice_10, KX3_judgeChoice_21, KX3_judgeChoice_25, KX3_judgeChoice_26, KX3_judgeChoice_39, KX3_judgeChoice_49, KX3_judgeChoice_61, KX3_judgeChoice_65, KX3_judgeChoice_66, KX3_judgeChoice_79, KX3_judgeChoice_89, KX3_judgeChoice_122, KX3_judgeChoice_126, KX3_judgeChoice_127, KX3_judgeChoice_132, KX3_judgeChoice_133, KX3_judgeChoice_159, KX3_judgeChoice_169, KX3_judgeChoice_179, KX3_judgeChoice_183, KX3_judgeChoice_184, KX3_judgeChoice_200, KX3_judgeChoice_210, KX3_judgeChoice_217, lkC, s1C, s2C, dlC, kyC, Nat.beq, Nat.ble, rcd, rno, rsw, Nat.reduceAdd, Nat.reduceBEq, Nat.reduceDiv, List.drop, List.take, List.reverse, List.reverseAux, Int.toNat, Option.toList, List.append, List.cons_append, List.nil_append, zg62, zg68, zg70, zg71, zg72, zg73, zg74]
                                  intro a230 e230 ob230 fk230
                                  cases e230
                                  clear fk230 ob230
                                  generalize hs230 : pLC s213 p1 71 (fLC s213 b 71) = s230
                                  have hX230 : XuC [68, 70, 71] σ s230 p1 := XuC.pL (M := [68, 70, 71]) hX213 (by decide) hs230
                                  try dsimp only [Qz_judgeChoice]
                                  exact fun τ9 h9 => ⟨rfl, JqC.we h9 (Or.inr ⟨(ctT tb tc, (if (¬ ta.2.1 = 0 ∧ ¬ tb.2.1 = 0) ∧ ¬ tc.2.1 = 0 then (1 : Int) else 0), if ta.2.2.1 = 1 then tb.2.2.1 else tc.2.2.1, t.2.2.2), by unfold x8T; rw [if_pos (by unfold rtT nuT at *; omega)], XuC.er (M := [68, 70, 71]) hX230 (by decide) he, hX230, ⟨(congrArg Int32.toInt ((pL_oi hs230).trans ((pI_o hs213 (by decide)).trans (pI_g hs153)))).trans (by rw [← hctt]), (congrArg Int32.toInt ((pL_oi hs230).trans (pI_g hs213))).trans (by rw [hcs]; omega), (pL_g hs230).trans (by exact hval)⟩, rfl⟩)⟩
                              · have g209 := (neI (x := (fIC s153 c 70)) (y := 0) h209 : ¬ ((fIC s153 c 70) : Int32).toInt = (0 : Int32).toInt)
                                have z0_ : (0 : Int32).toInt = 0 := rfl
                                have hcs : (if (¬ ta.2.1 = 0 ∧ ¬ tb.2.1 = 0) ∧ ¬ tc.2.1 = 0 then (1 : Int) else 0) = 1 := if_pos ⟨⟨by omega, by omega⟩, by omega⟩
                                refine hB _ _ _ _ _ (fun m231 hm231 => ?_)
                                dsimp only [ucgo, ucwp, ucsC, uqC, uoC, ctC, rfd, KX3_judgeChoice, KX3_judgeChoice_0, KX3_judgeChoice_10, KX3_judgeChoice_21, KX3_judgeChoice_25, KX3_judgeChoice_26, KX3_judgeChoice_39, KX3_judgeChoice_49, KX3_judgeChoice_61, KX3_judgeChoice_65, KX3_judgeChoice_66, KX3_judgeChoice_79, KX3_judgeChoice_89, KX3_judgeChoice_122, KX3_judgeChoice_126, KX3_judgeChoice_127, KX3_judgeChoice_132, KX3_judgeChoice_133, KX3_judgeChoice_159, KX3_judgeChoice_169, KX3_judgeChoice_179, KX3_judgeChoice_183, KX3_judgeChoice_184, KX3_judgeChoice_200, KX3_judgeChoice_210, KX3_judgeChoice_217, lkC, s1C, s2C, dlC, kyC, Nat.beq, Nat.ble, rcd, rno, rsw, Nat.reduceAdd, Nat.reduceBEq, Nat.reduceDiv, List.drop, List.take, List.reverse, List.reverseAux, Int.toNat, Option.toList, List.append, List.cons_append, List.nil_append, zg62, zg68, zg70, zg71, zg72, zg73, zg74]
                                have c232 : (Int32.ofInt 1).toInt = 1 := by decide
                                refine hB _ _ _ _ _ (fun m233 hm233 => ?_)
                                dsimp only [ucgo, ucwp, ucsC, uqC, uoC, ctC, rfd, KX3_judgeChoice, KX3_judgeChoice_0, KX3_judgeChoice_10, KX3_judgeChoice_21, KX3_judgeChoice_25, KX3_judgeChoice_26, KX3_judgeChoice_39, KX3_judgeChoice_49, KX3_judgeChoice_61, KX3_judgeChoice_65, KX3_judgeChoice_66, KX3_judgeChoice_79, KX3_judgeChoice_89, KX3_judgeChoice_122, KX3_judgeChoice_126, KX3_judgeChoice_127, KX3_judgeChoice_132, KX3_judgeChoice_133, KX3_judgeChoice_159, KX3_judgeChoice_169, KX3_judgeChoice_179, KX3_judgeChoice_183, KX3_judgeChoice_184, KX3_judgeChoice_200, KX3_judgeChoice_210, KX3_judgeChoice_217, lkC, s1C, s2C, dlC, kyC, Nat.beq, Nat.ble, rcd, rno, rsw, Nat.reduceAdd, Nat.reduceBEq, Nat.reduceDiv, List.drop, List.take, List.reverse, List.reverseAux, Int.toNat, Option.toList, List.append, List.cons_append, List.nil_append, zg62, zg68, zg70, zg71, zg72, zg73, zg74]
                                intro a234 e234 ob234 fk234
                                cases e234
                                clear fk234 ob234
                                generalize hs234 : pIC s153 p1 70 (Int32.ofInt 1) = s234
                                have hX234 : XuC [68, 70, 71] σ s234 p1 := XuC.pI (M := [68, 70, 71]) hX153 (by decide) hs234
                                have hv234 : (Int32.ofInt 1).toInt = 1 := by omega
                                intro a235 e235 ob235
                                cases e235
                                intro a236 e236 ob236
                                obtain rfl : a = a236 := Option.some.inj (((hX234.1 p1 72 (Or.inl (by decide))).2.2.trans ha).symm.trans e236)
                                have fl237 : (fLC s234 a 71) = fLC σ a 71 := (hX234.1 a 71 (Or.inr na)).2.1
                                have lc238 : (lg_cmp (fLC s234 a 71) (Int64.ofNat ((1 : Fin 2) : Nat))).toInt = 0 → (fLC s234 a 71) = (Int64.ofNat ((1 : Fin 2) : Nat)) := lcmpC
                                have ld238 : (fLC s234 a 71) = (Int64.ofNat ((1 : Fin 2) : Nat)) → (lg_cmp (fLC s234 a 71) (Int64.ofNat ((1 : Fin 2) : Nat))).toInt = 0 := fun e => by rw [e]; exact lcmp0
                                refine ⟨fun h239 => ?_, fun h239 => ?_⟩
                                · have g239 := (neI (x := (lg_cmp (fLC s234 a 71) (Int64.ofNat ((1 : Fin 2) : Nat)))) (y := 0) h239 : ¬ ((lg_cmp (fLC s234 a 71) (Int64.ofNat ((1 : Fin 2) : Nat))) : Int32).toInt = (0 : Int32).toInt)
                                  have z0_ : (0 : Int32).toInt = 0 := rfl
                                  refine hB _ _ _ _ _ (fun m240 hm240 => ?_)
                                  dsimp only [ucgo, ucwp, ucsC, uqC, uoC, ctC, rfd, KX3_judgeChoice, KX3_judgeChoice_0, KX3_judgeChoice_10, KX3_judgeChoice_21, KX3_judgeChoice_25, KX3_judgeChoice_26, KX3_judgeChoice_39, KX3_judgeChoice_49, KX3_judgeChoice_61, KX3_judgeChoice_65, KX3_judgeChoice_66, KX3_judgeChoice_79, KX3_judgeChoice_89, KX3_judgeChoice_122, KX3_judgeChoice_126, KX3_judgeChoice_127, KX3_judgeChoice_132, KX3_judgeChoice_133, KX3_judgeChoice_159, KX3_judgeChoice_169, KX3_judgeChoice_179, KX3_judgeChoice_183, KX3_judgeChoice_184, KX3_judgeChoice_200, KX3_judgeChoice_210, KX3_judgeChoice_217, lkC, s1C, s2C, dlC, kyC, Nat.beq, Nat.ble, rcd, rno, rsw, Nat.reduceAdd, Nat.reduceBEq, Nat.reduceDiv, List.drop, List.take, List.reverse, List.reverseAux, Int.toNat, Option.toList, List.append, List.cons_append, List.nil_append, zg62, zg68, zg70, zg71, zg72, zg73, zg74]
                                  intro a241 e241 ob241
                                  cases e241
                                  intro a242 e242 ob242
                                  obtain rfl : c = a242 := Option.some.inj (((hX234.1 p1 74 (Or.inl (by decide))).2.2.trans hc).symm.trans e242)
                                  have fl243 : (fLC s234 c 71) = fLC σ c 71 := (hX234.1 c 71 (Or.inr nc)).2.1
                                  have hval : (fLC s234 c 71) = (if ta.2.2.1 = 1 then tb.2.2.1 else tc.2.2.1) := by rw [if_neg (show ¬ ta.2.2.1 = 1 from fun q9 => absurd (ld238 ((fl237.trans wa.2.2).trans q9)) (by omega))]; exact (fl243.trans wc.2.2)
                                  refine hB _ _ _ _ _ (fun m244 hm244 => ?_)
                                  dsimp only [ucgo, ucwp, ucsC, uqC, uoC, ctC, rfd, KX3_judgeChoice, KX3_judgeChoice_0, KX3_judgeChoice_10, KX3_judgeChoice_21, KX3_judgeChoice_25, KX3_judgeChoice_26, KX3_judgeChoice_39, KX3_judgeChoice_49, KX3_judgeChoice_61, KX3_judgeChoice_65, KX3_judgeChoice_66, KX3_judgeChoice_79, KX3_judgeChoice_89, KX3_judgeChoice_122, KX3_judgeChoice_126, KX3_judgeChoice_127, KX3_judgeChoice_132, KX3_judgeChoice_133, KX3_judgeChoice_159, KX3_judgeChoice_169, KX3_judgeChoice_179, KX3_judgeChoice_183, KX3_judgeChoice_184, KX3_judgeChoice_200, KX3_judgeChoice_210, KX3_judgeChoice_217, lkC, s1C, s2C, dlC, kyC, Nat.beq, Nat.ble, rcd, rno, rsw, Nat.reduceAdd, Nat.reduceBEq, Nat.reduceDiv, List.drop, List.take, List.reverse, List.reverseAux, Int.toNat, Option.toList, List.append, List.cons_append, List.nil_append, zg62, zg68, zg70, zg71, zg72, zg73, zg74]
                                  intro a245 e245 ob245 fk245
                                  cases e245
                                  clear fk245 ob245
                                  generalize hs245 : pLC s234 p1 71 (fLC s234 c 71) = s245
                                  have hX245 : XuC [68, 70, 71] σ s245 p1 := XuC.pL (M := [68, 70, 71]) hX234 (by decide) hs245
                                  try dsimp only [Qz_judgeChoice]
                                  exact fun τ9 h9 => ⟨rfl, JqC.we h9 (Or.inr ⟨(ctT tb tc, (if (¬ ta.2.1 = 0 ∧ ¬ tb.2.1 = 0) ∧ ¬ tc.2.1 = 0 then (1 : Int) else 0), if ta.2.2.1 = 1 then tb.2.2.1 else tc.2.2.1, t.2.2.2), by unfold x8T; rw [if_pos (by unfold rtT nuT at *; omega)], XuC.er (M := [68, 70, 71]) hX245 (by decide) he, hX245, ⟨(congrArg Int32.toInt ((pL_oi hs245).trans ((pI_o hs234 (by decide)).trans (pI_g hs153)))).trans (by rw [← hctt]), (congrArg Int32.toInt ((pL_oi hs245).trans (pI_g hs234))).trans (by rw [hcs]; omega), (pL_g hs245).trans (by exact hval)⟩, rfl⟩)⟩
                                · have g239 := (eqI (x := (lg_cmp (fLC s234 a 71) (Int64.ofNat ((1 : Fin 2) : Nat)))) (y := 0) h239 : ((lg_cmp (fLC s234 a 71) (Int64.ofNat ((1 : Fin 2) : Nat))) : Int32).toInt = (0 : Int32).toInt)
                                  have z0_ : (0 : Int32).toInt = 0 := rfl
                                  refine hB _ _ _ _ _ (fun m246 hm246 => ?_)
                                  dsimp only [ucgo, ucwp, ucsC, uqC, uoC, ctC, rfd, KX3_judgeChoice, KX3_judgeChoice_0, KX3_judgeChoice_10, KX3_judgeChoice_21, KX3_judgeChoice_25, KX3_judgeChoice_26, KX3_judgeChoice_39, KX3_judgeChoice_49, KX3_judgeChoice_61, KX3_judgeChoice_65, KX3_judgeChoice_66, KX3_judgeChoice_79, KX3_judgeChoice_89, KX3_judgeChoice_122, KX3_judgeChoice_126, KX3_judgeChoice_127, KX3_judgeChoice_132, KX3_judgeChoice_133, KX3_judgeChoice_159, KX3_judgeChoice_169, KX3_judgeChoice_179, KX3_judgeChoice_183, KX3_judgeChoice_184, KX3_judgeChoice_200, KX3_judgeChoice_210, KX3_judgeChoice_217, lkC, s1C, s2C, dlC, kyC, Nat.beq, Nat.ble, rcd, rno, rsw, Nat.reduceAdd, Nat.reduceBEq, Nat.reduceDiv, List.drop, List.take, List.reverse, List.reverseAux, Int.toNat, Option.toList, List.append, List.cons_append, List.nil_append, zg62, zg68, zg70, zg71, zg72, zg73, zg74]
                                  intro a247 e247 ob247
                                  cases e247
                                  intro a248 e248 ob248
                                  obtain rfl : b = a248 := Option.some.inj (((hX234.1 p1 73 (Or.inl (by decide))).2.2.trans hb).symm.trans e248)
                                  have fl249 : (fLC s234 b 71) = fLC σ b 71 := (hX234.1 b 71 (Or.inr nb)).2.1
                                  have hval : (fLC s234 b 71) = (if ta.2.2.1 = 1 then tb.2.2.1 else tc.2.2.1) := by rw [if_pos (show ta.2.2.1 = 1 from (fl237.trans wa.2.2).symm.trans (lc238 (by omega)))]; exact (fl249.trans wb.2.2)
                                  refine hB _ _ _ _ _ (fun m250 hm250 => ?_)
                                  dsimp only [ucgo, ucwp, ucsC, uqC, uoC, ctC, rfd, KX3_judgeChoice, KX3_judgeChoice_0, KX3_judgeChoice_10, KX3_judgeChoice_21, KX3_judgeChoice_25, KX3_judgeChoice_26, KX3_judgeChoice_39, KX3_judgeChoice_49, KX3_judgeChoice_61, KX3_judgeChoice_65, KX3_judgeChoice_66, KX3_judgeChoice_79, KX3_judgeChoice_89, KX3_judgeChoice_122, KX3_judgeChoice_126, KX3_judgeChoice_127, KX3_judgeChoice_132, KX3_judgeChoice_133, KX3_judgeChoice_159, KX3_judgeChoice_169, KX3_judgeChoice_179, KX3_judgeChoice_183, KX3_judgeChoice_184, KX3_judgeChoice_200, KX3_judgeChoice_210, KX3_judgeChoice_217, lkC, s1C, s2C, dlC, kyC, Nat.beq, Nat.ble, rcd, rno, rsw, Nat.reduceAdd, Nat.reduceBEq, Nat.reduceDiv, List.drop, List.take, List.reverse, List.reverseAux, Int.toNat, Option.toList, List.append, List.cons_append, List.nil_append, zg62, zg68, zg70, zg71, zg72, zg73, zg74]
                                  intro a251 e251 ob251 fk251
                                  cases e251
                                  clear fk251 ob251
                                  generalize hs251 : pLC s234 p1 71 (fLC s234 b 71) = s251
                                  have hX251 : XuC [68, 70, 71] σ s251 p1 := XuC.pL (M := [68, 70, 71]) hX234 (by decide) hs251
                                  try dsimp only [Qz_judgeChoice]
                                  exact fun τ9 h9 => ⟨rfl, JqC.we h9 (Or.inr ⟨(ctT tb tc, (if (¬ ta.2.1 = 0 ∧ ¬ tb.2.1 = 0) ∧ ¬ tc.2.1 = 0 then (1 : Int) else 0), if ta.2.2.1 = 1 then tb.2.2.1 else tc.2.2.1, t.2.2.2), by unfold x8T; rw [if_pos (by unfold rtT nuT at *; omega)], XuC.er (M := [68, 70, 71]) hX251 (by decide) he, hX251, ⟨(congrArg Int32.toInt ((pL_oi hs251).trans ((pI_o hs234 (by decide)).trans (pI_g hs153)))).trans (by rw [← hctt]), (congrArg Int32.toInt ((pL_oi hs251).trans (pI_g hs234))).trans (by rw [hcs]; omega), (pL_g hs251).trans (by exact hval)⟩, rfl⟩)⟩
                        · have g148 := (eqI (x := (Int32.ofInt 1)) (y := 0) h148 : ((Int32.ofInt 1) : Int32).toInt = (0 : Int32).toInt)
                          have z0_ : (0 : Int32).toInt = 0 := rfl
                          exfalso
                          omega
                    · have hP143 : PjC E τ143 := hP.fr o143.2 rfl rfl
                      try dsimp only [Option.toList, List.cons_append, List.nil_append, s1C, s2C, dlC, kyC, Nat.beq, lkC, rcd, rno, rsw]
                      refine ⟨fun h252 => ?_, fun h252 => ?_⟩
                      · have g252 := (eqI (x := r139) (y := 0) h252 : (r139 : Int32).toInt = (0 : Int32).toInt)
                        have z0_ : (0 : Int32).toInt = 0 := rfl
                        refine hB _ _ _ _ _ (fun m253 hm253 => ?_)
                        dsimp only [ucgo, ucwp, ucsC, uqC, uoC, ctC, rfd, KX3_judgeChoice, KX3_judgeChoice_0, KX3_judgeChoice_10, KX3_judgeChoice_21, KX3_judgeChoice_25, KX3_judgeChoice_26, KX3_judgeChoice_39, KX3_judgeChoice_49, KX3_judgeChoice_61, KX3_judgeChoice_65, KX3_judgeChoice_66, KX3_judgeChoice_79, KX3_judgeChoice_89, KX3_judgeChoice_122, KX3_judgeChoice_126, KX3_judgeChoice_127, KX3_judgeChoice_132, KX3_judgeChoice_133, KX3_judgeChoice_159, KX3_judgeChoice_169, KX3_judgeChoice_179, KX3_judgeChoice_183, KX3_judgeChoice_184, KX3_judgeChoice_200, KX3_judgeChoice_210, KX3_judgeChoice_217, lkC, s1C, s2C, dlC, kyC, Nat.beq, Nat.ble, rcd, rno, rsw, Nat.reduceAdd, Nat.reduceBEq, Nat.reduceDiv, List.drop, List.take, List.reverse, List.reverseAux, Int.toNat, Option.toList, List.append, List.cons_append, List.nil_append, zg62, zg68, zg70, zg71, zg72, zg73, zg74]
                        have c254 : (Int32.ofInt 0).toInt = 0 := by decide
                        refine hB _ _ _ _ _ (fun m255 hm255 => ?_)
                        dsimp only [ucgo, ucwp, ucsC, uqC, uoC, ctC, rfd, KX3_judgeChoice, KX3_judgeChoice_0, KX3_judgeChoice_10, KX3_judgeChoice_21, KX3_judgeChoice_25, KX3_judgeChoice_26, KX3_judgeChoice_39, KX3_judgeChoice_49, KX3_judgeChoice_61, KX3_judgeChoice_65, KX3_judgeChoice_66, KX3_judgeChoice_79, KX3_judgeChoice_89, KX3_judgeChoice_122, KX3_judgeChoice_126, KX3_judgeChoice_127, KX3_judgeChoice_132, KX3_judgeChoice_133, KX3_judgeChoice_159, KX3_judgeChoice_169, KX3_judgeChoice_179, KX3_judgeChoice_183, KX3_judgeChoice_184, KX3_judgeChoice_200, KX3_judgeChoice_210, KX3_judgeChoice_217, lkC, s1C, s2C, dlC, kyC, Nat.beq, Nat.ble, rcd, rno, rsw, Nat.reduceAdd, Nat.reduceBEq, Nat.reduceDiv, List.drop, List.take, List.reverse, List.reverseAux, Int.toNat, Option.toList, List.append, List.cons_append, List.nil_append, zg62, zg68, zg70, zg71, zg72, zg73, zg74]
                        refine ⟨fun h256 => ?_, fun h256 => ?_⟩
                        · have g256 := (neI (x := (Int32.ofInt 0)) (y := 0) h256 : ¬ ((Int32.ofInt 0) : Int32).toInt = (0 : Int32).toInt)
                          have z0_ : (0 : Int32).toInt = 0 := rfl
                          exfalso
                          omega
                        · have g256 := (eqI (x := (Int32.ofInt 0)) (y := 0) h256 : ((Int32.ofInt 0) : Int32).toInt = (0 : Int32).toInt)
                          have z0_ : (0 : Int32).toInt = 0 := rfl
                          refine hB _ _ _ _ _ (fun m257 hm257 => ?_)
                          dsimp only [ucgo, ucwp, ucsC, uqC, uoC, ctC, rfd, KX3_judgeChoice, KX3_judgeChoice_0, KX3_judgeChoice_10, KX3_judgeChoice_21, KX3_judgeChoice_25, KX3_judgeChoice_26, KX3_judgeChoice_39, KX3_judgeChoice_49, KX3_judgeChoice_61, KX3_judgeChoice_65, KX3_judgeChoice_66, KX3_judgeChoice_79, KX3_judgeChoice_89, KX3_judgeChoice_122, KX3_judgeChoice_126, KX3_judgeChoice_127, KX3_judgeChoice_132, KX3_judgeChoice_133, KX3_judgeChoice_159, KX3_judgeChoice_169, KX3_judgeChoice_179, KX3_judgeChoice_183, KX3_judgeChoice_184, KX3_judgeChoice_200, KX3_judgeChoice_210, KX3_judgeChoice_217, lkC, s1C, s2C, dlC, kyC, Nat.beq, Nat.ble, rcd, rno, rsw, Nat.reduceAdd, Nat.reduceBEq, Nat.reduceDiv, List.drop, List.take, List.reverse, List.reverseAux, Int.toNat, Option.toList, List.append, List.cons_append, List.nil_append, zg62, zg68, zg70, zg71, zg72, zg73, zg74]
                          try dsimp only [Qz_judgeChoice]
                          exact fun τ9 h9 => ⟨rfl, JqC.we h9 (Or.inl ⟨by unfold x8T; rw [if_neg (by unfold rtT nuT at *; omega)], qb143⟩)⟩
                      · have g252 := (neI (x := r139) (y := 0) h252 : ¬ (r139 : Int32).toInt = (0 : Int32).toInt)
                        have z0_ : (0 : Int32).toInt = 0 := rfl
                        exfalso
                        omega
              · exfalso
                omega
      · exfalso
        omega
theorem wz_judgeChoice : ∀ (L : Nat) (As : List AvC) (σ : CsC) (w : Option AvC) (τ : CsC), EvF L 71 As σ w τ → Uz_judgeChoice As σ w τ := by
  intro L
  cases L with
  | zero => exact fun _ _ _ _ h => h.elim
  | succ L => exact fun As σ w τ h y hy => EvF.us (cs := [52, 62, 67, 72]) (pz_judgeChoice y) rfl (List.forall_mem_cons.2 ⟨wz_isFaulty L, List.forall_mem_cons.2 ⟨wz_isWanted L, List.forall_mem_cons.2 ⟨wz_isRightTaken L, List.forall_mem_cons.2 ⟨wz_choiceType L, fun _ h => absurd h List.not_mem_nil⟩⟩⟩⟩) h hy
abbrev Pz_judgeStore : ((Int → Int) × (Nat → Nat) × (Nat → Nat) × (Nat → Nat) × (Nat → Nat) × ZS × CxT × XrZ × TvT × Nat × TvT) → CpC := fun y As σ => match y with
  | (N, E, A, B, V, z, C, x, t, a, ta) => ∃ (p1 : Nat), As = [.inr (.inr (some (E 3))), .inr (.inr (some p1))] ∧ (PjC E σ) ∧ (fIC σ (E 1) 217 = 0) ∧ (p1 < cnC σ) ∧ (XqC σ x p1) ∧ (TwC σ p1 t) ∧ (x.1.1 = 15) ∧ (VpC E V σ C) ∧ (knT C x.2.1.2.1) ∧ (fRC σ p1 72 = some a) ∧ (TwC σ a ta) ∧ (¬ ta.1 = -1)
abbrev Qz_judgeStore : ((Int → Int) × (Nat → Nat) × (Nat → Nat) × (Nat → Nat) × (Nat → Nat) × ZS × CxT × XrZ × TvT × Nat × TvT) → CqC := fun y As σ w τ => match y, As with
  | (N, E, A, B, V, z, C, x, t, a, ta), [_, .inr (.inr (some p1))] => w = none ∧ JsC E σ τ (V x.2.1.2.1.toNat) (xsT C ta t x) ((if ¬ (vtT C x.2.1.2.1).2 = 0 ∧ ¬ ta.2.1 = 0 then (1 : Int) else 0), ta.2.2.1)
  | _, _ => True
abbrev Uz_judgeStore : CqC := fun As σ w τ => ∀ y, Pz_judgeStore y As σ → Qz_judgeStore y As σ w τ
set_option maxHeartbeats 4000000 in
theorem pz_judgeStore (y : (Int → Int) × (Nat → Nat) × (Nat → Nat) × (Nat → Nat) × (Nat → Nat) × ZS × CxT × XrZ × TvT × Nat × TvT) : PbC KX3_judgeStore [(51, TrP, EqC 51), (52, TrP, EqC 52), (75, TrP, EqC 75), (62, TrP, EqC 62)] [(51, Uz_variableOf), (52, Uz_isFaulty), (75, Uz_fits), (62, Uz_isWanted)] (fun As σ => Pz_judgeStore y As σ ∧ cnC σ ≤ 1000000 ∧ ∃ w τ, uqC quL 79 As σ w τ) (Qz_judgeStore y) := by
  obtain ⟨N, E, A, B, V, z, C, x, t, a, ta⟩ := y
  rintro As σ ⟨⟨p1, rfl, hP, he, hlt, hx, ht, hk, hV, hkn, ha, wa, fa⟩, hcn, _, _, hQ⟩ K hB hW n_
  have h9a : (fIC σ a 68).toInt = ta.1 := wa.1
  change K n_ 0 [(0, .inr (.inr (some (E 3)))), (1, .inr (.inr (some p1)))] [] σ
  refine hB _ _ _ _ _ (fun m51 hm51 => ?_)
  dsimp only [ucgo, ucwp, ucsC, uqC, uoC, ctC, rfd, KX3_judgeStore, KX3_judgeStore_0, KX3_judgeStore_10, KX3_judgeStore_20, KX3_judgeStore_45, KX3_judgeStore_46, KX3_judgeStore_54, KX3_judgeStore_64, KX3_judgeStore_68, KX3_judgeStore_69, lkC, s1C, s2C, dlC, kyC, Nat.beq, Nat.ble, rcd, rno, rsw, Nat.reduceAdd, Nat.reduceBEq, Nat.reduceDiv, List.drop, List.take, List.reverse, List.reverseAux, Int.toNat, Option.toList, List.append, List.cons_append, List.nil_append, zg62, zg70, zg71, zg72, zg331, zg332]
  intro w52 τ52 o52 q52
  obtain ⟨rfl, qq52⟩ := q52 (N, E, A, B, V, z, C, x.2.1.2.1) ⟨_, rfl, hV, hx.2.1 (by omega)⟩
  rcases qq52 with ⟨hk52, rfl⟩ | ⟨hk52, rfl⟩
  · obtain ⟨vo, hvo⟩ : ∃ o, V x.2.1.2.1.toNat = o := ⟨_, rfl⟩
    have hvv := hV.2.2 x.2.1.2.1.toNat (by omega)
    have hvl := (hV.2.1.2 x.2.1.2.1.toNat (by omega)).2
    rw [hvo] at hvv hvl
    rw [hvo]
    try dsimp only [Option.toList, List.cons_append, List.nil_append, s1C, s2C, dlC, kyC, Nat.beq, lkC, rcd, rno, rsw]
    refine ⟨fun h53 => ?_, fun b53 h53 => ?_⟩
    · cases h53
    · cases h53
      refine hB _ _ _ _ _ (fun m54 hm54 => ?_)
      dsimp only [ucgo, ucwp, ucsC, uqC, uoC, ctC, rfd, KX3_judgeStore, KX3_judgeStore_0, KX3_judgeStore_10, KX3_judgeStore_20, KX3_judgeStore_45, KX3_judgeStore_46, KX3_judgeStore_54, KX3_judgeStore_64, KX3_judgeStore_68, KX3_judgeStore_69, lkC, s1C, s2C, dlC, kyC, Nat.beq, Nat.ble, rcd, rno, rsw, Nat.reduceAdd, Nat.reduceBEq, Nat.reduceDiv, List.drop, List.take, List.reverse, List.reverseAux, Int.toNat, Option.toList, List.append, List.cons_append, List.nil_append, zg62, zg70, zg71, zg72, zg331, zg332]
      intro a55 e55 ob55
      cases e55
      intro w56 τ56 o56 q56
      obtain ⟨r56, rfl, hr56, rfl⟩ := q56 (N, E, A, B, V, z) ⟨_, rfl⟩
      have hr56 : (r56.toInt = 1 ∧ (fIC σ a 68).toInt = -1) ∨ (r56.toInt = 0 ∧ ¬ (fIC σ a 68).toInt = -1) := by
        rcases hr56 with q9 | q9
        · exact Or.inl ⟨q9.1, q9.2 _ ha⟩
        · exact Or.inr ⟨q9.1, fun q8 => q9.2 (fun a9 q7 => by cases ha.symm.trans q7; exact q8)⟩
      try dsimp only [Option.toList, List.cons_append, List.nil_append, s1C, s2C, dlC, kyC, Nat.beq, lkC, rcd, rno, rsw]
      refine ⟨fun h57 => ?_, fun h57 => ?_⟩
      · have g57 := (neI (x := r56) (y := 0) h57 : ¬ (r56 : Int32).toInt = (0 : Int32).toInt)
        have z0_ : (0 : Int32).toInt = 0 := rfl
        refine hB _ _ _ _ _ (fun m58 hm58 => ?_)
        dsimp only [ucgo, ucwp, ucsC, uqC, uoC, ctC, rfd, KX3_judgeStore, KX3_judgeStore_0, KX3_judgeStore_10, KX3_judgeStore_20, KX3_judgeStore_45, KX3_judgeStore_46, KX3_judgeStore_54, KX3_judgeStore_64, KX3_judgeStore_68, KX3_judgeStore_69, lkC, s1C, s2C, dlC, kyC, Nat.beq, Nat.ble, rcd, rno, rsw, Nat.reduceAdd, Nat.reduceBEq, Nat.reduceDiv, List.drop, List.take, List.reverse, List.reverseAux, Int.toNat, Option.toList, List.append, List.cons_append, List.nil_append, zg62, zg70, zg71, zg72, zg331, zg332]
        try dsimp only [Qz_judgeStore]
        exfalso
        omega
      · have g57 := (eqI (x := r56) (y := 0) h57 : (r56 : Int32).toInt = (0 : Int32).toInt)
        have z0_ : (0 : Int32).toInt = 0 := rfl
        refine hB _ _ _ _ _ (fun m59 hm59 => ?_)
        dsimp only [ucgo, ucwp, ucsC, uqC, uoC, ctC, rfd, KX3_judgeStore, KX3_judgeStore_0, KX3_judgeStore_10, KX3_judgeStore_20, KX3_judgeStore_45, KX3_judgeStore_46, KX3_judgeStore_54, KX3_judgeStore_64, KX3_judgeStore_68, KX3_judgeStore_69, lkC, s1C, s2C, dlC, kyC, Nat.beq, Nat.ble, rcd, rno, rsw, Nat.reduceAdd, Nat.reduceBEq, Nat.reduceDiv, List.drop, List.take, List.reverse, List.reverseAux, Int.toNat, Option.toList, List.append, List.cons_append, List.nil_append, zg62, zg70, zg71, zg72, zg331, zg332]
        intro a60 e60 ob60
        cases e60
        intro a61 e61 ob61
        cases e61
        have f62 : (fIC σ vo 331).toInt = (vtT C x.2.1.2.1).1 := hvv.1
        intro w63 τ63 o63 q63
        rw [ha] at q63 o63
        obtain ⟨r63, rfl, hr63, rfl⟩ := q63 (N, E, A, B, V, z) ⟨_, _, rfl⟩
        have hr63 : (r63.toInt = 1 ∧ ftT ta (vtT C x.2.1.2.1).1) ∨ (r63.toInt = 0 ∧ ¬ ftT ta (vtT C x.2.1.2.1).1) := by
          rw [show ((fIC σ vo 331) : Int32).toInt = (vtT C x.2.1.2.1).1 by omega, ft_c (a := tvC σ a) (b := ta) wa.1 wa.2.1 wa.2.2 _] at hr63
          exact hr63
        have hftn := hr63
        try dsimp only [Option.toList, List.cons_append, List.nil_append, s1C, s2C, dlC, kyC, Nat.beq, lkC, rcd, rno, rsw]
        intro a64 e64 ob64
        cases e64
        intro a65 e65 ob65
        obtain rfl : a = a65 := Option.some.inj (ha.symm.trans e65)
        intro w67 τ67 o67 q67
        obtain ⟨rfl, qq67⟩ := q67 (N, E, A, B, V, z) ⟨_, _, rfl, hP⟩
        rcases qq67 with ⟨qa67, rfl⟩ | ⟨qa67, qb67⟩
        · have qc67 := qa67
          try dsimp only [Option.toList, List.cons_append, List.nil_append, s1C, s2C, dlC, kyC, Nat.beq, lkC, rcd, rno, rsw]
          refine ⟨fun h68 => ?_, fun h68 => ?_⟩
          · have g68 := (neI (x := r63) (y := 0) h68 : ¬ (r63 : Int32).toInt = (0 : Int32).toInt)
            have z0_ : (0 : Int32).toInt = 0 := rfl
            refine hB _ _ _ _ _ (fun m69 hm69 => ?_)
            dsimp only [ucgo, ucwp, ucsC, uqC, uoC, ctC, rfd, KX3_judgeStore, KX3_judgeStore_0, KX3_judgeStore_10, KX3_judgeStore_20, KX3_judgeStore_45, KX3_judgeStore_46, KX3_judgeStore_54, KX3_judgeStore_64, KX3_judgeStore_68, KX3_judgeStore_69, lkC, s1C, s2C, dlC, kyC, Nat.beq, Nat.ble, rcd, rno, rsw, Nat.reduceAdd, Nat.reduceBEq, Nat.reduceDiv, List.drop, List.take, List.reverse, List.reverseAux, Int.toNat, Option.toList, List.append, List.cons_append, List.nil_append, zg62, zg70, zg71, zg72, zg331, zg332]
            intro a70 e70 ob70
            cases e70
            have f71 : (fIC σ vo 332).toInt = (vtT C x.2.1.2.1).2 := hvv.2
            refine ⟨fun h72 => ?_, fun h72 => ?_⟩
            · have g72 := (eqI (x := (fIC σ vo 332)) (y := 0) h72 : ((fIC σ vo 332) : Int32).toInt = (0 : Int32).toInt)
              have z0_ : (0 : Int32).toInt = 0 := rfl
              have hcs : (if ¬ (vtT C x.2.1.2.1).2 = 0 ∧ ¬ ta.2.1 = 0 then (1 : Int) else 0) = 0 := if_neg (by omega)
              refine hB _ _ _ _ _ (fun m73 hm73 => ?_)
              dsimp only [ucgo, ucwp, ucsC, uqC, uoC, ctC, rfd, KX3_judgeStore, KX3_judgeStore_0, KX3_judgeStore_10, KX3_judgeStore_20, KX3_judgeStore_45, KX3_judgeStore_46, KX3_judgeStore_54, KX3_judgeStore_64, KX3_judgeStore_68, KX3_judgeStore_69, lkC, s1C, s2C, dlC, kyC, Nat.beq, Nat.ble, rcd, rno, rsw, Nat.reduceAdd, Nat.reduceBEq, Nat.reduceDiv, List.drop, List.take, List.reverse, List.reverseAux, Int.toNat, Option.toList, List.append, List.cons_append, List.nil_append, zg62, zg70, zg71, zg72, zg331, zg332]
              have c74 : (Int32.ofInt 0).toInt = 0 := by decide
              refine hB _ _ _ _ _ (fun m75 hm75 => ?_)
              dsimp only [ucgo, ucwp, ucsC, uqC, uoC, ctC, rfd, KX3_judgeStore, KX3_judgeStore_0, KX3_judgeStore_10, KX3_judgeStore_20, KX3_judgeStore_45, KX3_judgeStore_46, KX3_judgeStore_54, KX3_judgeStore_64, KX3_judgeStore_68, KX3_judgeStore_69, lkC, s1C, s2C, dlC, kyC, Nat.beq, Nat.ble, rcd, rno, rsw, Nat.reduceAdd, Nat.reduceBEq, Nat.reduceDiv, List.drop, List.take, List.reverse, List.reverseAux, Int.toNat, Option.toList, List.append, List.cons_append, List.nil_append, zg62, zg70, zg71, zg72, zg331, zg332]
              intro a76 e76 ob76 fk76
              cases e76
              clear fk76 ob76
              generalize hs76 : pIC σ vo 335 (Int32.ofInt 0) = s76
              have hX76 : XuC [335, 336] σ s76 vo := XuC.pI (M := [335, 336]) (XuC.rf) (by decide) hs76
              have hv76 : (Int32.ofInt 0).toInt = 0 := by omega
              intro a77 e77 ob77
              cases e77
              intro a78 e78 ob78
              obtain rfl : a = a78 := Option.some.inj (((hX76.1 p1 72 (Or.inl (by decide))).2.2.trans ha).symm.trans e78)
              have fl79 : (fLC s76 a 71) = fLC σ a 71 := (hX76.1 a 71 (Or.inl (by decide))).2.1
              intro a80 e80 ob80 fk80
              cases e80
              clear fk80 ob80
              generalize hs80 : pLC s76 vo 336 (fLC s76 a 71) = s80
              have hX80 : XuC [335, 336] σ s80 vo := XuC.pL (M := [335, 336]) hX76 (by decide) hs80
              try dsimp only [Qz_judgeStore]
              exact fun τ9 h9 => by
                refine ⟨rfl, ?_⟩
                rw [hvo]
                exact JsC.we h9 (Or.inr ⟨⟨t, by unfold xsT; rw [if_pos ⟨hkn, by rcases hftn with q8 | q8; exact q8.2; exact absurd q8.1 (by omega)⟩]⟩, XuC.er (M := [335, 336]) hX80 (by decide) he, hX80, (congrArg Int32.toInt ((pL_oi hs80).trans (pI_g hs76))).trans (by rw [hcs]; omega), (pL_g hs80).trans (fl79.trans wa.2.2)⟩)
            · have g72 := (neI (x := (fIC σ vo 332)) (y := 0) h72 : ¬ ((fIC σ vo 332) : Int32).toInt = (0 : Int32).toInt)
              have z0_ : (0 : Int32).toInt = 0 := rfl
              refine hB _ _ _ _ _ (fun m81 hm81 => ?_)
              dsimp only [ucgo, ucwp, ucsC, uqC, uoC, ctC, rfd, KX3_judgeStore, KX3_judgeStore_0, KX3_judgeStore_10, KX3_judgeStore_20, KX3_judgeStore_45, KX3_judgeStore_46, KX3_judgeStore_54, KX3_judgeStore_64, KX3_judgeStore_68, KX3_judgeStore_69, lkC, s1C, s2C, dlC, kyC, Nat.beq, Nat.ble, rcd, rno, rsw, Nat.reduceAdd, Nat.reduceBEq, Nat.reduceDiv, List.drop, List.take, List.reverse, List.reverseAux, Int.toNat, Option.toList, List.append, List.cons_append, List.nil_append, zg62, zg70, zg71, zg72, zg331, zg332]
              intro a82 e82 ob82
              cases e82
              intro a83 e83 ob83
              obtain rfl : a = a83 := Option.some.inj (ha.symm.trans e83)
              have f84 : (fIC σ a 70).toInt = ta.2.1 := wa.2.1
              refine ⟨fun h85 => ?_, fun h85 => ?_⟩
              · have g85 := (eqI (x := (fIC σ a 70)) (y := 0) h85 : ((fIC σ a 70) : Int32).toInt = (0 : Int32).toInt)
                have z0_ : (0 : Int32).toInt = 0 := rfl
                have hcs : (if ¬ (vtT C x.2.1.2.1).2 = 0 ∧ ¬ ta.2.1 = 0 then (1 : Int) else 0) = 0 := if_neg (by omega)
                refine hB _ _ _ _ _ (fun m86 hm86 => ?_)
                dsimp only [ucgo, ucwp, ucsC, uqC, uoC, ctC, rfd, KX3_judgeStore, KX3_judgeStore_0, KX3_judgeStore_10, KX3_judgeStore_20, KX3_judgeStore_45, KX3_judgeStore_46, KX3_judgeStore_54, KX3_judgeStore_64, KX3_judgeStore_68, KX3_judgeStore_69, lkC, s1C, s2C, dlC, kyC, Nat.beq, Nat.ble, rcd, rno, rsw, Nat.reduceAdd, Nat.reduceBEq, Nat.reduceDiv, List.drop, List.take, List.reverse, List.reverseAux, Int.toNat, Option.toList, List.append, List.cons_append, List.nil_append, zg62, zg70, zg71, zg72, zg331, zg332]
                have c87 : (Int32.ofInt 0).toInt = 0 := by decide
                refine hB _ _ _ _ _ (fun m88 hm88 => ?_)
                dsimp only [ucgo, ucwp, ucsC, uqC, uoC, ctC, rfd, KX3_judgeStore, KX3_judgeStore_0, KX3_judgeStore_10, KX3_judgeStore_20, KX3_judgeStore_45, KX3_judgeStore_46, KX3_judgeStore_54, KX3_judgeStore_64, KX3_judgeStore_68, KX3_judgeStore_69, lkC, s1C, s2C, dlC, kyC, Nat.beq, Nat.ble, rcd, rno, rsw, Nat.reduceAdd, Nat.reduceBEq, Nat.reduceDiv, List.drop, List.take, List.reverse, List.reverseAux, Int.toNat, Option.toList, List.append, List.cons_append, List.nil_append, zg62, zg70, zg71, zg72, zg331, zg332]
                intro a89 e89 ob89 fk89
                cases e89
                clear fk89 ob89
                generalize hs89 : pIC σ vo 335 (Int32.ofInt 0) = s89
                have hX89 : XuC [335, 336] σ s89 vo := XuC.pI (M := [335, 336]) (XuC.rf) (by decide) hs89
                have hv89 : (Int32.ofInt 0).toInt = 0 := by omega
                intro a90 e90 ob90
                cases e90
                intro a91 e91 ob91
                obtain rfl : a = a91 := Option.some.inj (((hX89.1 p1 72 (Or.inl (by decide))).2.2.trans ha).symm.trans e91)
                have fl92 : (fLC s89 a 71) = fLC σ a 71 := (hX89.1 a 71 (Or.inl (by decide))).2.1
                intro a93 e93 ob93 fk93
                cases e93
                clear fk93 ob93
                generalize hs93 : pLC s89 vo 336 (fLC s89 a 71) = s93
                have hX93 : XuC [335, 336] σ s93 vo := XuC.pL (M := [335, 336]) hX89 (by decide) hs93
                try dsimp only [Qz_judgeStore]
                exact fun τ9 h9 => by
                  refine ⟨rfl, ?_⟩
                  rw [hvo]
                  exact JsC.we h9 (Or.inr ⟨⟨t, by unfold xsT; rw [if_pos ⟨hkn, by rcases hftn with q8 | q8; exact q8.2; exact absurd q8.1 (by omega)⟩]⟩, XuC.er (M := [335, 336]) hX93 (by decide) he, hX93, (congrArg Int32.toInt ((pL_oi hs93).trans (pI_g hs89))).trans (by rw [hcs]; omega), (pL_g hs93).trans (fl92.trans wa.2.2)⟩)
              · have g85 := (neI (x := (fIC σ a 70)) (y := 0) h85 : ¬ ((fIC σ a 70) : Int32).toInt = (0 : Int32).toInt)
                have z0_ : (0 : Int32).toInt = 0 := rfl
                have hcs : (if ¬ (vtT C x.2.1.2.1).2 = 0 ∧ ¬ ta.2.1 = 0 then (1 : Int) else 0) = 1 := if_pos ⟨by omega, by omega⟩
                refine hB _ _ _ _ _ (fun m94 hm94 => ?_)
                dsimp only [ucgo, ucwp, ucsC, uqC, uoC, ctC, rfd, KX3_judgeStore, KX3_judgeStore_0, KX3_judgeStore_10, KX3_judgeStore_20, KX3_judgeStore_45, KX3_judgeStore_46, KX3_judgeStore_54, KX3_judgeStore_64, KX3_judgeStore_68, KX3_judgeStore_69, lkC, s1C, s2C, dlC, kyC, Nat.beq, Nat.ble, rcd, rno, rsw, Nat.reduceAdd, Nat.reduceBEq, Nat.reduceDiv, List.drop, List.take, List.reverse, List.reverseAux, Int.toNat, Option.toList, List.append, List.cons_append, List.nil_append, zg62, zg70, zg71, zg72, zg331, zg332]
                have c95 : (Int32.ofInt 1).toInt = 1 := by decide
                refine hB _ _ _ _ _ (fun m96 hm96 => ?_)
                dsimp only [ucgo, ucwp, ucsC, uqC, uoC, ctC, rfd, KX3_judgeStore, KX3_judgeStore_0, KX3_judgeStore_10, KX3_judgeStore_20, KX3_judgeStore_45, KX3_judgeStore_46, KX3_judgeStore_54, KX3_judgeStore_64, KX3_judgeStore_68, KX3_judgeStore_69, lkC, s1C, s2C, dlC, kyC, Nat.beq, Nat.ble, rcd, rno, rsw, Nat.reduceAdd, Nat.reduceBEq, Nat.reduceDiv, List.drop, List.take, List.reverse, List.reverseAux, Int.toNat, Option.toList, List.append, List.cons_append, List.nil_append, zg62, zg70, zg71, zg72, zg331, zg332]
                intro a97 e97 ob97 fk97
                cases e97
                clear fk97 ob97
                generalize hs97 : pIC σ vo 335 (Int32.ofInt 1) = s97
                have hX97 : XuC [335, 336] σ s97 vo := XuC.pI (M := [335, 336]) (XuC.rf) (by decide) hs97
                have hv97 : (Int32.ofInt 1).toInt = 1 := by omega
                intro a98 e98 ob98
                cases e98
                intro a99 e99 ob99
                obtain rfl : a = a99 := Option.some.inj (((hX97.1 p1 72 (Or.inl (by decide))).2.2.trans ha).symm.trans e99)
                have fl100 : (fLC s97 a 71) = fLC σ a 71 := (hX97.1 a 71 (Or.inl (by decide))).2.1
                intro a101 e101 ob101 fk101
                cases e101
                clear fk101 ob101
                generalize hs101 : pLC s97 vo 336 (fLC s97 a 71) = s101
                have hX101 : XuC [335, 336] σ s101 vo := XuC.pL (M := [335, 336]) hX97 (by decide) hs101
                try dsimp only [Qz_judgeStore]
                exact fun τ9 h9 => by
                  refine ⟨rfl, ?_⟩
                  rw [hvo]
                  exact JsC.we h9 (Or.inr ⟨⟨t, by unfold xsT; rw [if_pos ⟨hkn, by rcases hftn with q8 | q8; exact q8.2; exact absurd q8.1 (by omega)⟩]⟩, XuC.er (M := [335, 336]) hX101 (by decide) he, hX101, (congrArg Int32.toInt ((pL_oi hs101).trans (pI_g hs97))).trans (by rw [hcs]; omega), (pL_g hs101).trans (fl100.trans wa.2.2)⟩)
          · have g68 := (eqI (x := r63) (y := 0) h68 : (r63 : Int32).toInt = (0 : Int32).toInt)
            have z0_ : (0 : Int32).toInt = 0 := rfl
            exfalso
            omega
        · have hP67 : PjC E τ67 := hP.fr o67.2 rfl rfl
          try dsimp only [Option.toList, List.cons_append, List.nil_append, s1C, s2C, dlC, kyC, Nat.beq, lkC, rcd, rno, rsw]
          refine ⟨fun h102 => ?_, fun h102 => ?_⟩
          · have g102 := (neI (x := r63) (y := 0) h102 : ¬ (r63 : Int32).toInt = (0 : Int32).toInt)
            have z0_ : (0 : Int32).toInt = 0 := rfl
            exfalso
            omega
          · have g102 := (eqI (x := r63) (y := 0) h102 : (r63 : Int32).toInt = (0 : Int32).toInt)
            have z0_ : (0 : Int32).toInt = 0 := rfl
            refine hB _ _ _ _ _ (fun m103 hm103 => ?_)
            dsimp only [ucgo, ucwp, ucsC, uqC, uoC, ctC, rfd, KX3_judgeStore, KX3_judgeStore_0, KX3_judgeStore_10, KX3_judgeStore_20, KX3_judgeStore_45, KX3_judgeStore_46, KX3_judgeStore_54, KX3_judgeStore_64, KX3_judgeStore_68, KX3_judgeStore_69, lkC, s1C, s2C, dlC, kyC, Nat.beq, Nat.ble, rcd, rno, rsw, Nat.reduceAdd, Nat.reduceBEq, Nat.reduceDiv, List.drop, List.take, List.reverse, List.reverseAux, Int.toNat, Option.toList, List.append, List.cons_append, List.nil_append, zg62, zg70, zg71, zg72, zg331, zg332]
            try dsimp only [Qz_judgeStore]
            exact fun τ9 h9 => ⟨rfl, JsC.we h9 (Or.inl ⟨by unfold xsT; rw [if_neg (fun q9 => by rcases hftn with q8 | q8; omega; exact q8.2 q9.2)], qb67⟩)⟩
  · exact absurd hkn hk52
theorem wz_judgeStore : ∀ (L : Nat) (As : List AvC) (σ : CsC) (w : Option AvC) (τ : CsC), EvF L 79 As σ w τ → Uz_judgeStore As σ w τ := by
  intro L
  cases L with
  | zero => exact fun _ _ _ _ h => h.elim
  | succ L => exact fun As σ w τ h y hy => EvF.us (cs := [51, 52, 75, 62]) (pz_judgeStore y) rfl (List.forall_mem_cons.2 ⟨wz_variableOf L, List.forall_mem_cons.2 ⟨wz_isFaulty L, List.forall_mem_cons.2 ⟨wz_fits L, List.forall_mem_cons.2 ⟨wz_isWanted L, fun _ h => absurd h List.not_mem_nil⟩⟩⟩⟩) h hy
