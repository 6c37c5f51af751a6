/-! params, methods -/
theorem pa1_7 {N : Int → Int} {i : Nat} {z : ZS} : pa1M N i z = pa2M N i (tyvY (t7M z).1) (f7Z z) (typM (t7M z)) := by
  by_cases c : codY z.1 = 71
  · rw [show t7M z = accM z from if_pos c, show f7Z z = 1 from if_pos c]
    unfold pa1M
    rw [if_pos c]
    rfl
  · rw [show t7M z = z from if_neg c, show f7Z z = 0 from if_neg c]
    unfold pa1M
    rw [if_neg c]
theorem pad_l {ty : Int} {s : SpC} : (zMs (padY ty s)).length = (zMs s).length := by
  unfold padY
  show (match zMs s with
    | [] => []
    | (a, b, l) :: r => (a, b, ty :: l) :: r : List (Int × Int × List Int)).length = _
  generalize zMs s = q
  cases q with
  | nil => rfl
  | cons a l => rfl
theorem pa2_k {N : Int → Int} {i : Nat} {ty f : Int} {z : ZS} : (pa2M N i ty f z).2.1 = z.2.1 ∧ (pa2M N i ty f z).2.2.1 = z.2.2.1 ∧ (pa2M N i ty f z).2.2.2.1.2 = z.2.2.2.1.2 := by
  unfold pa2M
  split
  · exact ⟨rfl, rfl, rfl⟩
  · exact ⟨rfl, rfl, rfl⟩
theorem t7_k {z : ZS} : (t7M z).2 = z.2 := by
  unfold t7M
  split
  · rfl
  · rfl
theorem pa1_k {N : Int → Int} {i : Nat} {z : ZS} : (pa1M N i z).2.1 = z.2.1 ∧ (pa1M N i z).2.2.1 = z.2.2.1 ∧ (pa1M N i z).2.2.2.1.2 = z.2.2.2.1.2 := by
  rw [pa1_7]
  have h := pa2_k (N := N) (i := i) (ty := tyvY (t7M z).1) (f := f7Z z) (z := typM (t7M z))
  have e : (typM (t7M z)).2 = z.2 := t7_k
  rw [e] at h
  exact h
theorem pal_k {N : Int → Int} : ∀ (f i : Nat) (z : ZS), (palM N f i z).2.1 = z.2.1 ∧ (palM N f i z).2.2.1 = z.2.2.1 ∧ (palM N f i z).2.2.2.1.2 = z.2.2.2.1.2 := by
  intro f
  induction f with
  | zero => intro i z; exact ⟨rfl, rfl, rfl⟩
  | succ f ih =>
    intro i z
    rw [palM]
    have a := pa1_k (N := N) (i := i) (z := z)
    split
    · have b := ih (i + 1) (accM (pa1M N i z))
      exact ⟨b.1.trans a.1, b.2.1.trans a.2.1, b.2.2.trans a.2.2⟩
    · exact a
theorem pa_k {N : Int → Int} {z : ZS} : (paM N z).2.1 = z.2.1 ∧ (paM N z).2.2.1 = z.2.2.1 ∧ (paM N z).2.2.2.1.2 = z.2.2.2.1.2 := by
  unfold paM pa3M
  split
  · exact ⟨rfl, rfl, rfl⟩
  · exact pal_k 7 0 (xpM 0 z)
/-- what stands in the loop over params -/
def PaL (N : Int → Int) (E A B V : Nat → Nat) (z : ZS) (σ : CsC) (p1 r : Nat) (υ : CsC) (U : Nat → Nat) (v : ZS) (j : Nat) : Prop := (ZC N E A B U υ v ∧ FzC (cnC σ) (xnM z) E A A B B V U z v σ υ) ∧ (fRC υ p1 183 = some r ∧ (fIC υ p1 185).toInt = (j : Int) ∧ p1 < cnC υ) ∧ cnC σ ≤ cnC υ
abbrev Pz_readParams : ((Int → Int) × (Nat → Nat) × (Nat → Nat) × (Nat → Nat) × (Nat → Nat) × ZS × Nat) → CpC := fun y As σ => match y with
  | (N, E, A, B, V, z, r) => ∃ (p1 : Nat), As = [.inr (.inr (some (E 0))), .inr (.inr (some p1))] ∧ (ZC N E A B V σ z) ∧ (fRC σ p1 183 = some r ∧ (fIC σ p1 185).toInt = 0 ∧ p1 < cnC σ) ∧ (r ≠ E 302 ∧ r ≠ E 303) ∧ (zFt (paM N z).1 = 0)
abbrev Qz_readParams : ((Int → Int) × (Nat → Nat) × (Nat → Nat) × (Nat → Nat) × (Nat → Nat) × ZS × Nat) → CqC := fun y As σ w τ => match y, As with
  | (N, E, A, B, V, z, r), [_, .inr (.inr (some p1))] => w = none ∧ ∃ V' : Nat → Nat, ZC N E A B V' τ (paM N z) ∧ FzC (cnC σ) (xnM z) E A A B B V V' z (paM N z) σ τ
  | _, _ => True
abbrev Uz_readParams : CqC := fun As σ w τ => ∀ y, Pz_readParams y As σ → Qz_readParams y As σ w τ
set_option maxHeartbeats 4000000 in
theorem pz_readParams (y : (Int → Int) × (Nat → Nat) × (Nat → Nat) × (Nat → Nat) × (Nat → Nat) × ZS × Nat) : PbC KX7_readParams [(129, TrP, EqC 129), (125, TrP, EqC 125), (130, TrP, EqC 130), (136, TrP, EqC 136), (137, TrP, EqC 137), (138, TrP, EqC 138), (112, TrP, EqC 112)] [(129, Uz_expect), (125, Uz_code), (130, Uz_takes), (136, Uz_readType), (137, Uz_declare), (138, Uz_know), (112, Uz_addParam)] (fun As σ => Pz_readParams y As σ ∧ cnC σ ≤ 1000000 ∧ ∃ w τ, uqC quL 135 As σ w τ) (Qz_readParams y) := by
  obtain ⟨N, E, A, B, V, z, r⟩ := y
  rintro As σ ⟨⟨p1, rfl, hZ, hm, hrr, hft⟩, hcn, _, _, hQ⟩ K hB hW n_
  have hH : HI0 σ ∧ TyC σ (E 0) 8 := hQ
  have hat := hZ.at0 hH
  have hf3 : zFt (pa3M N (xpM 0 z)).1 = 0 := zf_xp (c := 1) (z := pa3M N (xpM 0 z)) hft
  have hf0 : zFt (xpM 0 z).1 = 0 := by
    have h9 := hf3
    unfold pa3M at h9
    by_cases q : codY (xpM 0 z).1 = 1
    · rw [if_pos q] at h9
      exact h9
    · rw [if_neg q, lf_pal] at h9
      exact (gd_pal _ _ _).z h9
  have L89 : ∀ (k : Nat) (υ : CsC) (U : Nat → Nat) (v : ZS), ZC N E A B U υ v → FzC (cnC σ) (xnM z) E A A B B V U z v σ υ → cnC σ ≤ cnC υ → paM N z = xpM 1 v → K k 89 [(0, .inr (.inr (some (E 0))))] [] υ := by
    intro k υ U v hZ9 hF9 hle9 hE
    refine hB _ _ _ _ _ (fun m51 hm51 => ?_)
    dsimp only [ucgo, ucwp, ucsC, uqC, uoC, ctC, rfd, KX7_readParams, KX7_readParams_0, KX7_readParams_13, KX7_readParams_17, KX7_readParams_21, KX7_readParams_27, KX7_readParams_55, KX7_readParams_59, KX7_readParams_60, KX7_readParams_89, lkC, s1C, s2C, dlC, kyC, Nat.beq, Nat.ble, rcd, rno, rsw, Nat.reduceAdd, Nat.reduceBEq, Nat.reduceDiv, List.drop, List.take, List.reverse, List.reverseAux, Int.toNat, Option.toList, List.append, List.cons_append, List.nil_append, zg185]
    have c52 : (Int32.ofInt 1).toInt = 1 := by decide
    intro w53 τ53 o53 q53
    obtain ⟨rfl, hZ53, hf53⟩ := q53 (N, E, A, B, U, v, 1) ⟨_, rfl, hZ9, by omega, (by rw [← hE]; exact hft)⟩
    have hF53 := FzC.tr hF9 (FzC.mo hf53 hle9 (hF9).2.2.1.1.1)
    have hle53 : cnC σ ≤ cnC τ53 := Nat.le_trans hle9 (hf53).1
    try dsimp only [Option.toList, List.cons_append, List.nil_append, s1C, s2C, dlC, kyC, Nat.beq, lkC, rcd, rno, rsw]
    try dsimp only [Qz_readParams]
    intro τ hwe
    rw [hE]
    exact ⟨rfl, _, ZC.we hZ53 hwe, FzC.we hF53 hwe⟩
  have L17 : ∀ (k : Nat) (υ : CsC) (U : Nat → Nat) (v : ZS) (mo i : Int32) (j : Nat), PaL N E A B V z σ p1 r υ U v j → i.toInt = (j : Int) → j ≤ 6 → ((mo.toInt = 1 ∧ palM N (7 - j) j v = (palM N 7 0 (xpM 0 z))) ∨ (mo.toInt = 0 ∧ v = (palM N 7 0 (xpM 0 z)))) → ¬ codY (xpM 0 z).1 = 1 → K k 17 [(0, .inr (.inr (some (E 0)))), (1, .inr (.inr (some p1))), (2, .inl mo), (3, .inl i)] [] υ := by
    intro k
    induction k using Nat.strongRecOn with
    | _ k ih =>
      intro υ U v mo i j hR hij hj hP hcl
      have hcl9 : paM N z = xpM 1 (palM N 7 0 (xpM 0 z)) := by unfold paM pa3M; rw [if_neg hcl]
      have hfX : zFt (palM N 7 0 (xpM 0 z)).1 = 0 := by
        have h9 := hf3
        unfold pa3M at h9
        rw [if_neg hcl] at h9
        exact h9
      refine hB _ _ _ _ _ (fun m51 hm51 => ?_)
      dsimp only [ucgo, ucwp, ucsC, uqC, uoC, ctC, rfd, KX7_readParams, KX7_readParams_0, KX7_readParams_13, KX7_readParams_17, KX7_readParams_21, KX7_readParams_27, KX7_readParams_55, KX7_readParams_59, KX7_readParams_60, KX7_readParams_89, lkC, s1C, s2C, dlC, kyC, Nat.beq, Nat.ble, rcd, rno, rsw, Nat.reduceAdd, Nat.reduceBEq, Nat.reduceDiv, List.drop, List.take, List.reverse, List.reverseAux, Int.toNat, Option.toList, List.append, List.cons_append, List.nil_append, zg185]
      refine ⟨fun h52 => ?_, fun h52 => ?_⟩
      · have g52 := (eqI (x := mo) (y := 0) h52 : (mo : Int32).toInt = (0 : Int32).toInt)
        have z0_ : (0 : Int32).toInt = 0 := rfl
        exact hW _ 89 [(0, .inr (.inr (some (E 0))))] _ _ _ (List.forall_mem_cons.2 ⟨List.Mem.head _, fun _ h => absurd h List.not_mem_nil⟩) (L89 _ _ _ _ hR.1.1 hR.1.2 hR.2.2 (by rw [hcl9]; rcases hP with q | q; exact absurd q.1 (by omega); rw [q.2]))
      · have g52 := (neI (x := mo) (y := 0) h52 : ¬ (mo : Int32).toInt = (0 : Int32).toInt)
        have z0_ : (0 : Int32).toInt = 0 := rfl
        refine hB _ _ _ _ _ (fun m53 hm53 => ?_)
        dsimp only [ucgo, ucwp, ucsC, uqC, uoC, ctC, rfd, KX7_readParams, KX7_readParams_0, KX7_readParams_13, KX7_readParams_17, KX7_readParams_21, KX7_readParams_27, KX7_readParams_55, KX7_readParams_59, KX7_readParams_60, KX7_readParams_89, lkC, s1C, s2C, dlC, kyC, Nat.beq, Nat.ble, rcd, rno, rsw, Nat.reduceAdd, Nat.reduceBEq, Nat.reduceDiv, List.drop, List.take, List.reverse, List.reverseAux, Int.toNat, Option.toList, List.append, List.cons_append, List.nil_append, zg185]
        have c54 : (Int32.ofInt 6).toInt = 6 := by decide
        refine ⟨fun h55 => ?_, fun h55 => ?_⟩
        · have g55 := ltI (x := (Int32.ofInt 6)) (y := i) h55
          exact hW _ 89 [(0, .inr (.inr (some (E 0))))] _ _ _ (List.forall_mem_cons.2 ⟨List.Mem.head _, fun _ h => absurd h List.not_mem_nil⟩) (L89 _ _ _ _ hR.1.1 hR.1.2 hR.2.2 (by rw [hcl9]; rcases hP with q | q; exact absurd q.1 (by omega); rw [q.2]))
        · have g55 := nltI (x := (Int32.ofInt 6)) (y := i) h55
          have hmo : palM N (7 - j) j v = (palM N 7 0 (xpM 0 z)) := by
            rcases hP with q | q
            · exact q.2
            · exact absurd q.1 (by omega)
          have hpl : palM N (7 - j) j v = if codY (pa1M N j v).1 = 5 then palM N (6 - j) (j + 1) (accM (pa1M N j v)) else pa1M N j v := by
            rw [show 7 - j = (6 - j) + 1 by omega]
            rfl
          have hf1 : zFt (pa1M N j v).1 = 0 := by
            have h9 : zFt (palM N (7 - j) j v).1 = 0 := by rw [hmo]; exact hfX
            rw [hpl] at h9
            by_cases q : codY (pa1M N j v).1 = 5
            · rw [if_pos q, lf_pal] at h9
              exact zf_ac (z := pa1M N j v) ((gd_pal _ _ _).z h9)
            · rw [if_neg q] at h9
              exact h9
          have hj6 : j < 6 := Classical.byContradiction (fun q => by
            have h9 := hf1
            rw [pa1_7] at h9
            unfold pa2M at h9
            rw [if_neg q] at h9
            exact (dcl_nz (show zFt (dclY (tyvY (t7M v).1) (f7Z v) 0 (typM (t7M v)).1) = 0 from h9)).1.2.1 rfl)
          have epa : pa1M N j v = (padY (tyvY (t7M v).1) (dcM N (tyvY (t7M v).1) (f7Z v) 1 (typM (t7M v))).1, (dcM N (tyvY (t7M v).1) (f7Z v) 1 (typM (t7M v))).2) := by
            rw [pa1_7]
            unfold pa2M
            rw [if_pos hj6]
          have hdc : zFt (dclY (tyvY (t7M v).1) (f7Z v) 1 (typM (t7M v)).1) = 0 := by
            have h9 := hf1
            rw [epa] at h9
            exact h9
          have hdz := dcl_nz hdc
          have htz := typ_nz (show zFt (typY (t7M v).1) = 0 from hdz.2.1)
          have hty : (tyvY (t7M v).1) = codY (t7M v).1 - 50 := if_pos htz.1
          have h7 := f7_v (z := v)
          have ht0 : zFt (t7M v).1 = 0 := by
            have h9 : zFt (typY (t7M v).1) = 0 := hdz.2.1
            rw [htz.2] at h9
            exact (gd_acc _).z h9
          have ht7 : Hid (codY v.1 = 71 → zFt (accM v).1 = 0) := fun q => by
            rw [show t7M v = accM v from if_pos q] at ht0
            exact ht0
          have ha5 : Hid (codY (pa1M N j v).1 = 5 → zFt (accM (pa1M N j v)).1 = 0) := fun q => by
            have h9 : zFt (palM N (7 - j) j v).1 = 0 := by rw [hmo]; exact hfX
            rw [hpl, if_pos q, lf_pal] at h9
            exact (gd_pal _ _ _).z h9
          refine hB _ _ _ _ _ (fun m56 hm56 => ?_)
          dsimp only [ucgo, ucwp, ucsC, uqC, uoC, ctC, rfd, KX7_readParams, KX7_readParams_0, KX7_readParams_13, KX7_readParams_17, KX7_readParams_21, KX7_readParams_27, KX7_readParams_55, KX7_readParams_59, KX7_readParams_60, KX7_readParams_89, lkC, s1C, s2C, dlC, kyC, Nat.beq, Nat.ble, rcd, rno, rsw, Nat.reduceAdd, Nat.reduceBEq, Nat.reduceDiv, List.drop, List.take, List.reverse, List.reverseAux, Int.toNat, Option.toList, List.append, List.cons_append, List.nil_append, zg185]
          have c57 : (Int32.ofInt 71).toInt = 71 := by decide
          intro w58 τ58 o58 q58
          obtain ⟨r58, rfl, hr58, hZ58, hf58⟩ : ∃ r, w58 = some (.inl r) ∧ r.toInt = f7Z v ∧ ZC N E A B U τ58 (t7M v) ∧ FzC (cnC υ) (xnM v) E A A B B U U v (t7M v) υ τ58 := by
            rcases q58 (N, E, A, B, U, v, 71) ⟨_, rfl, hR.1.1, by omega, ht7⟩ with ⟨r, h1, h2, h3, h4, h5⟩ | ⟨r, h1, h2, h3, h4⟩
            · rw [show t7M v = accM v from if_pos h3, show f7Z v = 1 from if_pos h3]
              exact ⟨r, h1, h2, h4, h5⟩
            · rw [show t7M v = v from if_neg h3, show f7Z v = 0 from if_neg h3, ← h4]
              exact ⟨r, h1, h2, hR.1.1, FzC.rf⟩
          have hF58 := FzC.tr hR.1.2 (FzC.mo hf58 hR.2.2 (hR.1.2).2.2.1.1.1)
          have hle58 : cnC σ ≤ cnC τ58 := Nat.le_trans hR.2.2 (hf58).1
          have hm58 : fRC τ58 p1 183 = some r ∧ (fIC τ58 p1 185).toInt = (j : Int) ∧ p1 < cnC τ58 := by
            obtain ⟨a9, b9, c9⟩ := hR.2.1
            have q9 := (o58.2.2 rfl p1 c9).1
            exact ⟨(q9 183 rfl).2.2.trans a9, (congrArg Int32.toInt (q9 185 rfl).1).trans b9, Nat.lt_of_lt_of_le c9 o58.2.1⟩
          try dsimp only [Option.toList, List.cons_append, List.nil_append, s1C, s2C, dlC, kyC, Nat.beq, lkC, rcd, rno, rsw]
          intro w59 τ59 o59 q59
          obtain ⟨r59, rfl, hr59, hrt59, hZ59, hf59⟩ := q59 (N, E, A, B, U, (t7M v)) ⟨rfl, hZ58, hdz.2.1⟩
          have hF59 := FzC.tr hF58 (FzC.mo hf59 hle58 (hF58).2.2.1.1.1)
          have hle59 : cnC σ ≤ cnC τ59 := Nat.le_trans hle58 (hf59).1
          have hm59 : fRC τ59 p1 183 = some r ∧ (fIC τ59 p1 185).toInt = (j : Int) ∧ p1 < cnC τ59 := by
            obtain ⟨a9, b9, c9⟩ := hm58
            have q9 := (o59.2.2 rfl p1 c9).1
            exact ⟨(q9 183 rfl).2.2.trans a9, (congrArg Int32.toInt (q9 185 rfl).1).trans b9, Nat.lt_of_lt_of_le c9 o59.2.1⟩
          try dsimp only [Option.toList, List.cons_append, List.nil_append, s1C, s2C, dlC, kyC, Nat.beq, lkC, rcd, rno, rsw]
          intro a60 e60 ob60
          cases e60
          have f61 : (fIC τ59 p1 185).toInt = (j : Int) := hm59.2.1
          have c62 : (Int32.ofInt 6).toInt = 6 := by decide
          refine ⟨fun h63 => ?_, fun h63 => ?_⟩
          · have g63 := leI (x := (Int32.ofInt 6)) (y := (fIC τ59 p1 185)) h63
            exfalso
            omega
          · have g63 := nleI (x := (Int32.ofInt 6)) (y := (fIC τ59 p1 185)) h63
            refine hB _ _ _ _ _ (fun m64 hm64 => ?_)
            dsimp only [ucgo, ucwp, ucsC, uqC, uoC, ctC, rfd, KX7_readParams, KX7_readParams_0, KX7_readParams_13, KX7_readParams_17, KX7_readParams_21, KX7_readParams_27, KX7_readParams_55, KX7_readParams_59, KX7_readParams_60, KX7_readParams_89, lkC, s1C, s2C, dlC, kyC, Nat.beq, Nat.ble, rcd, rno, rsw, Nat.reduceAdd, Nat.reduceBEq, Nat.reduceDiv, List.drop, List.take, List.reverse, List.reverseAux, Int.toNat, Option.toList, List.append, List.cons_append, List.nil_append, zg185]
            have c65 : (Int32.ofInt 1).toInt = 1 := by decide
            refine hB _ _ _ _ _ (fun m66 hm66 => ?_)
            dsimp only [ucgo, ucwp, ucsC, uqC, uoC, ctC, rfd, KX7_readParams, KX7_readParams_0, KX7_readParams_13, KX7_readParams_17, KX7_readParams_21, KX7_readParams_27, KX7_readParams_55, KX7_readParams_59, KX7_readParams_60, KX7_readParams_89, lkC, s1C, s2C, dlC, kyC, Nat.beq, Nat.ble, rcd, rno, rsw, Nat.reduceAdd, Nat.reduceBEq, Nat.reduceDiv, List.drop, List.take, List.reverse, List.reverseAux, Int.toNat, Option.toList, List.append, List.cons_append, List.nil_append, zg185]
            intro w67 τ67 o67 q67
            obtain ⟨r67, rfl, hr67, hZ67, hf67⟩ := q67 (N, E, A, B, U, (typM (t7M v)), (tyvY (t7M v).1), (f7Z v), 1) ⟨_, _, _, rfl, hZ59, by omega, by omega, by omega, hdc⟩
            have hF67 := FzC.tr hF59 (FzC.mo hf67 hle59 (hF59).2.2.1.1.1)
            have hle67 : cnC σ ≤ cnC τ67 := Nat.le_trans hle59 (hf67).1
            have hm67 : fRC τ67 p1 183 = some r ∧ (fIC τ67 p1 185).toInt = (j : Int) ∧ p1 < cnC τ67 := by
              obtain ⟨a9, b9, c9⟩ := hm59
              have q9 := (o67.2.2 rfl p1 c9).1
              exact ⟨(q9 183 rfl).2.2.trans a9, (congrArg Int32.toInt (q9 185 rfl).1).trans b9, Nat.lt_of_lt_of_le c9 o67.2.1⟩
            try dsimp only [Option.toList, List.cons_append, List.nil_append, s1C, s2C, dlC, kyC, Nat.beq, lkC, rcd, rno, rsw]
            intro w68 τ68 o68 q68
            obtain ⟨rfl, hZ68, hf68⟩ := q68 (N, E, A, B, (upA U (zVs (typM (t7M v)).1).length (cnC τ59)), (dc0M N (tyvY (t7M v).1) (f7Z v) 1 (typM (t7M v))), (zVs (typM (t7M v)).1).length) ⟨_, rfl, hZ67, by omega, ⟨by show _ < (zVs (dclY (tyvY (t7M v).1) (f7Z v) 1 (typM (t7M v)).1)).length; rw [dcl_l hdc]; exact Nat.lt_succ_self _, fun q hq => (hZ59.2.2.2.2.2.2.2.1 q hq).2.1⟩⟩
            have hF68 := FzC.tr hF67 (FzC.mo hf68 hle67 (hF67).2.2.1.1.1)
            have hle68 : cnC σ ≤ cnC τ68 := Nat.le_trans hle67 (hf68).1
            have hez69 : (knM (zVs (typM (t7M v)).1).length (vth (dc0M N (tyvY (t7M v).1) (f7Z v) 1 (typM (t7M v))).1 (zVs (typM (t7M v)).1).length).1 (dc0M N (tyvY (t7M v).1) (f7Z v) 1 (typM (t7M v)))) = (dcM N (tyvY (t7M v).1) (f7Z v) 1 (typM (t7M v))) := by
              rw [show (vth (dc0M N (tyvY (t7M v).1) (f7Z v) 1 (typM (t7M v))).1 (zVs (typM (t7M v)).1).length).1 = zAt (typM (t7M v)).1 from dcl_v hdc]
              rfl
            have hZ70 : ZC N E A B (upA U (zVs (typM (t7M v)).1).length (cnC τ59)) τ68 (dcM N (tyvY (t7M v).1) (f7Z v) 1 (typM (t7M v))) := (by rw [← hez69]; exact hZ68)
            have hF70 : FzC (cnC σ) (xnM z) E A A B B V (upA U (zVs (typM (t7M v)).1).length (cnC τ59)) z (dcM N (tyvY (t7M v).1) (f7Z v) 1 (typM (t7M v))) σ τ68 := (by rw [← hez69]; exact hF68)
            have hm68 : fRC τ68 p1 183 = some r ∧ (fIC τ68 p1 185).toInt = (j : Int) ∧ p1 < cnC τ68 := by
              obtain ⟨a9, b9, c9⟩ := hm67
              have q9 := (o68.2.2 rfl p1 c9).1
              exact ⟨(q9 183 rfl).2.2.trans a9, (congrArg Int32.toInt (q9 185 rfl).1).trans b9, Nat.lt_of_lt_of_le c9 o68.2.1⟩
            try dsimp only [Option.toList, List.cons_append, List.nil_append, s1C, s2C, dlC, kyC, Nat.beq, lkC, rcd, rno, rsw]
            intro w71 τ71 o71 q71
            obtain ⟨rfl, hap71⟩ := q71 (N, E, A, B, V, z, r, j) ⟨_, _, rfl, hm68.1, ⟨hm68.2.1, hj6⟩⟩
            have hZ71 : ZC N E A B (upA U (zVs (typM (t7M v)).1).length (cnC τ59)) τ71 (pa1M N j v) := by
              rw [epa]
              exact ZC.ap hZ70 hap71 hrr.1 rfl rfl rfl rfl pad_l
            have hF71 : FzC (cnC σ) (xnM z) E A A B B V (upA U (zVs (typM (t7M v)).1).length (cnC τ59)) z (pa1M N j v) σ τ71 := by
              rw [epa]
              exact FzC.ap hF70 hap71 hrr.2 rfl rfl rfl
            have hle71 : cnC σ ≤ cnC τ71 := by rw [hap71.2.2.2.2.2]; exact hle68
            have hm71 : fRC τ71 p1 183 = some r ∧ (fIC τ71 p1 185).toInt = (j : Int) + 1 ∧ p1 < cnC τ71 := ⟨by rw [hap71.2.2.1.2]; exact hm68.1, hap71.1, by rw [hap71.2.2.2.2.2]; exact hm68.2.2⟩
            try dsimp only [Option.toList, List.cons_append, List.nil_append, s1C, s2C, dlC, kyC, Nat.beq, lkC, rcd, rno, rsw]
            have c72 : (Int32.ofInt 5).toInt = 5 := by decide
            intro w73 τ73 o73 q73
            obtain ⟨r73, rfl, D73⟩ : ∃ r, w73 = some (.inl r) ∧ ((r.toInt = 1 ∧ codY (pa1M N j v).1 = 5 ∧ ZC N E A B (upA U (zVs (typM (t7M v)).1).length (cnC τ59)) τ73 (accM (pa1M N j v)) ∧ FzC (cnC τ71) (xnM (pa1M N j v)) E A A B B (upA U (zVs (typM (t7M v)).1).length (cnC τ59)) (upA U (zVs (typM (t7M v)).1).length (cnC τ59)) (pa1M N j v) (accM (pa1M N j v)) τ71 τ73) ∨ (r.toInt = 0 ∧ ¬ codY (pa1M N j v).1 = 5 ∧ τ71 = τ73)) := by
              rcases q73 (N, E, A, B, (upA U (zVs (typM (t7M v)).1).length (cnC τ59)), (pa1M N j v), 5) ⟨_, rfl, hZ71, by omega, ha5⟩ with ⟨r, h1, h2⟩ | ⟨r, h1, h2⟩
              · exact ⟨r, h1, Or.inl h2⟩
              · exact ⟨r, h1, Or.inr h2⟩
            have hm73 : fRC τ73 p1 183 = some r ∧ (fIC τ73 p1 185).toInt = (j : Int) + 1 ∧ p1 < cnC τ73 := by
              obtain ⟨a9, b9, c9⟩ := hm71
              have q9 := (o73.2.2 rfl p1 c9).1
              exact ⟨(q9 183 rfl).2.2.trans a9, (congrArg Int32.toInt (q9 185 rfl).1).trans b9, Nat.lt_of_lt_of_le c9 o73.2.1⟩
            try dsimp only [Option.toList, List.cons_append, List.nil_append, s1C, s2C, dlC, kyC, Nat.beq, lkC, rcd, rno, rsw]
            have c74 : (Int32.ofInt 1).toInt = 1 := by decide
            have u75 := tiC i
            have a75 : (i + (Int32.ofInt 1)).toInt = i.toInt + 1 := addC (by omega) (by omega) (by omega)
            rcases D73 with ⟨d1, d2, hZx, hfx⟩ | ⟨d1, d2, d3⟩
            · exact hW _ 17 [(0, .inr (.inr (some (E 0)))), (1, .inr (.inr (some p1))), (2, .inl r73), (3, .inl (i + (Int32.ofInt 1)))] _ _ _ (List.forall_mem_cons.2 ⟨List.Mem.tail _ (List.Mem.tail _ (List.Mem.tail _ (List.Mem.tail _ (List.Mem.tail _ (List.Mem.head _))))), List.forall_mem_cons.2 ⟨List.Mem.tail _ (List.Mem.tail _ (List.Mem.tail _ (List.Mem.tail _ (List.Mem.tail _ (List.Mem.tail _ (List.Mem.head _)))))), List.forall_mem_cons.2 ⟨List.Mem.tail _ (List.Mem.head _), List.forall_mem_cons.2 ⟨List.Mem.head _, fun _ h => absurd h List.not_mem_nil⟩⟩⟩⟩) (ih _ (by omega) _ _ _ _ _ (j + 1) ⟨⟨hZx, (hF71).tr (hfx.mo hle71 (hF71).2.2.1.1.1)⟩, ⟨hm73.1, by have := hm73.2.1; omega, hm73.2.2⟩, Nat.le_trans hle71 o73.2.1⟩ (by omega) (by omega) (Or.inl ⟨d1, by rw [← hmo, hpl, if_pos d2, show 7 - (j + 1) = 6 - j by omega]⟩) hcl)
            · exact hW _ 17 [(0, .inr (.inr (some (E 0)))), (1, .inr (.inr (some p1))), (2, .inl r73), (3, .inl (i + (Int32.ofInt 1)))] _ _ _ (List.forall_mem_cons.2 ⟨List.Mem.tail _ (List.Mem.tail _ (List.Mem.tail _ (List.Mem.tail _ (List.Mem.tail _ (List.Mem.head _))))), List.forall_mem_cons.2 ⟨List.Mem.tail _ (List.Mem.tail _ (List.Mem.tail _ (List.Mem.tail _ (List.Mem.tail _ (List.Mem.tail _ (List.Mem.head _)))))), List.forall_mem_cons.2 ⟨List.Mem.tail _ (List.Mem.head _), List.forall_mem_cons.2 ⟨List.Mem.head _, fun _ h => absurd h List.not_mem_nil⟩⟩⟩⟩) (ih _ (by omega) _ _ _ _ _ (j + 1) ⟨⟨(by rw [← d3]; exact hZ71), (by rw [← d3]; exact hF71)⟩, ⟨hm73.1, by have := hm73.2.1; omega, hm73.2.2⟩, Nat.le_trans hle71 o73.2.1⟩ (by omega) (by omega) (Or.inr ⟨d1, by rw [← hmo, hpl, if_neg d2]⟩) hcl)
  change K n_ 0 [(0, .inr (.inr (some (E 0)))), (1, .inr (.inr (some p1)))] [] σ
  refine hB _ _ _ _ _ (fun m51 hm51 => ?_)
  dsimp only [ucgo, ucwp, ucsC, uqC, uoC, ctC, rfd, KX7_readParams, KX7_readParams_0, KX7_readParams_13, KX7_readParams_17, KX7_readParams_21, KX7_readParams_27, KX7_readParams_55, KX7_readParams_59, KX7_readParams_60, KX7_readParams_89, lkC, s1C, s2C, dlC, kyC, Nat.beq, Nat.ble, rcd, rno, rsw, Nat.reduceAdd, Nat.reduceBEq, Nat.reduceDiv, List.drop, List.take, List.reverse, List.reverseAux, Int.toNat, Option.toList, List.append, List.cons_append, List.nil_append, zg185]
  have c52 : (Int32.ofInt 0).toInt = 0 := by decide
  intro w53 τ53 o53 q53
  obtain ⟨rfl, hZ53, hf53⟩ := q53 (N, E, A, B, V, z, 0) ⟨_, rfl, hZ, by omega, hf0⟩
  have hF53 := FzC.tr (FzC.rf (n := cnC σ) (m := xnM z) (E := E) (A := A) (B := B) (V := V) (z := z) (σ := σ)) (FzC.mo hf53 (Nat.le_refl (cnC σ)) ((FzC.rf (n := cnC σ) (m := xnM z) (E := E) (A := A) (B := B) (V := V) (z := z) (σ := σ))).2.2.1.1.1)
  have hle53 : cnC σ ≤ cnC τ53 := Nat.le_trans (Nat.le_refl (cnC σ)) (hf53).1
  have hm53 : fRC τ53 p1 183 = some r ∧ (fIC τ53 p1 185).toInt = 0 ∧ p1 < cnC τ53 := by
    obtain ⟨a9, b9, c9⟩ := hm
    have q9 := (o53.2.2 rfl p1 c9).1
    exact ⟨(q9 183 rfl).2.2.trans a9, (congrArg Int32.toInt (q9 185 rfl).1).trans b9, Nat.lt_of_lt_of_le c9 o53.2.1⟩
  try dsimp only [Option.toList, List.cons_append, List.nil_append, s1C, s2C, dlC, kyC, Nat.beq, lkC, rcd, rno, rsw]
  intro w54 τ54 o54 q54
  obtain ⟨c54, rfl, hc54, rfl⟩ := q54 (N, E, A, B, V, (xpM 0 z)) ⟨rfl, hZ53⟩
  try dsimp only [Option.toList, List.cons_append, List.nil_append, s1C, s2C, dlC, kyC, Nat.beq, lkC, rcd, rno, rsw]
  have c55 : (Int32.ofInt 1).toInt = 1 := by decide
  refine ⟨fun h56 => ?_, fun h56 => ?_⟩
  · have g56 := (eqI (x := c54) (y := (Int32.ofInt 1)) h56 : (c54 : Int32).toInt = ((Int32.ofInt 1) : Int32).toInt)
    exact hW _ 89 [(0, .inr (.inr (some (E 0))))] _ _ _ (List.forall_mem_cons.2 ⟨List.Mem.head _, fun _ h => absurd h List.not_mem_nil⟩) (L89 _ _ _ _ hZ53 hF53 hle53 (by unfold paM pa3M; rw [if_pos (by omega)]))
  · have g56 := (neI (x := c54) (y := (Int32.ofInt 1)) h56 : ¬ (c54 : Int32).toInt = ((Int32.ofInt 1) : Int32).toInt)
    refine hB _ _ _ _ _ (fun m57 hm57 => ?_)
    dsimp only [ucgo, ucwp, ucsC, uqC, uoC, ctC, rfd, KX7_readParams, KX7_readParams_0, KX7_readParams_13, KX7_readParams_17, KX7_readParams_21, KX7_readParams_27, KX7_readParams_55, KX7_readParams_59, KX7_readParams_60, KX7_readParams_89, lkC, s1C, s2C, dlC, kyC, Nat.beq, Nat.ble, rcd, rno, rsw, Nat.reduceAdd, Nat.reduceBEq, Nat.reduceDiv, List.drop, List.take, List.reverse, List.reverseAux, Int.toNat, Option.toList, List.append, List.cons_append, List.nil_append, zg185]
    have c58 : (Int32.ofInt 1).toInt = 1 := by decide
    have c59 : (Int32.ofInt 0).toInt = 0 := by decide
    exact hW _ 17 [(0, .inr (.inr (some (E 0)))), (1, .inr (.inr (some p1))), (2, .inl (Int32.ofInt 1)), (3, .inl (Int32.ofInt 0))] _ _ _ (List.forall_mem_cons.2 ⟨List.Mem.tail _ (List.Mem.tail _ (List.Mem.head _)), List.forall_mem_cons.2 ⟨List.Mem.tail _ (List.Mem.tail _ (List.Mem.tail _ (List.Mem.head _))), List.forall_mem_cons.2 ⟨List.Mem.tail _ (List.Mem.head _), List.forall_mem_cons.2 ⟨List.Mem.head _, fun _ h => absurd h List.not_mem_nil⟩⟩⟩⟩) (L17 _ _ _ _ _ _ 0 ⟨⟨hZ53, hF53⟩, ⟨hm53.1, by have := hm53.2.1; omega, hm53.2.2⟩, hle53⟩ (by omega) (by omega) (Or.inl ⟨by omega, rfl⟩) (by omega))
theorem wz_readParams : ∀ (L : Nat) (As : List AvC) (σ : CsC) (w : Option AvC) (τ : CsC), EvF L 135 As σ w τ → Uz_readParams As σ w τ := by
  intro L
  cases L with
  | zero => exact fun _ _ _ _ h => h.elim
  | succ L => exact fun As σ w τ h y hy => EvF.us (cs := [129, 125, 130, 136, 137, 138, 112]) (pz_readParams y) rfl (List.forall_mem_cons.2 ⟨wz_expect L, List.forall_mem_cons.2 ⟨wz_code L, List.forall_mem_cons.2 ⟨wz_takes L, List.forall_mem_cons.2 ⟨wz_readType L, List.forall_mem_cons.2 ⟨wz_declare L, List.forall_mem_cons.2 ⟨wz_know L, List.forall_mem_cons.2 ⟨wz_addParam L, fun _ h => absurd h List.not_mem_nil⟩⟩⟩⟩⟩⟩⟩) h hy
