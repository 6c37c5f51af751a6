/-! the class's flow: SURELY assigned, exps -/
theorem FrE.pL2 {M : List Nat} {σ τ υ : CsC} {a k : Nat} {v : Int64} (h : FrE M σ τ) (hk : M.elem k = true) (e : pLC τ a k v = υ) : FrE M σ υ := by rw [← e]; exact h.pL hk
theorem FrE.qL2 {M : List Nat} {σ τ υ : CsC} {a : Nat} {f : Nat → Int64} (h : FrE M σ τ) (hk : M.elem 901 = true) (e : qLC τ a f = υ) : FrE M σ υ := by rw [← e]; exact h.qL hk
abbrev Pz_bitq : ((Int → Int) × (Nat → Nat) × (Nat → Nat) × (Nat → Nat) × (Nat → Nat) × ZS) → CpC := fun y As σ => match y with
  | (N, E, A, B, V, z) => ∃ (p0 : Int32), As = [.inl p0]
abbrev Qz_bitq : ((Int → Int) × (Nat → Nat) × (Nat → Nat) × (Nat → Nat) × (Nat → Nat) × ZS) → CqC := fun y As σ w τ => match y, As with
  | (N, E, A, B, V, z), [.inl p0] => ∃ r, w = some (.inr (.inl r)) ∧ r = bitQ p0.toInt ∧ σ = τ
  | _, _ => True
abbrev Uz_bitq : CqC := fun As σ w τ => ∀ y, Pz_bitq y As σ → Qz_bitq y As σ w τ
set_option maxHeartbeats 4000000 in
theorem pz_bitq (y : (Int → Int) × (Nat → Nat) × (Nat → Nat) × (Nat → Nat) × (Nat → Nat) × ZS) : PbC KX11_bit [] [] (fun As σ => Pz_bitq y As σ ∧ cnC σ ≤ 1000000 ∧ ∃ w τ, uqC quL 222 As σ w τ) (Qz_bitq y) := by
  obtain ⟨N, E, A, B, V, z⟩ := y
  rintro As σ ⟨⟨p0, rfl⟩, hcn, _, _, hQ⟩ K hB hW n_
  change K n_ 0 [(0, .inl p0)] [] σ
  refine hB _ _ _ _ _ (fun m51 hm51 => ?_)
  dsimp only [ucgo, ucwp, ucsC, uqC, uoC, ctC, rfd, KX11_bit, KX11_bit_0, lkC, s1C, s2C, dlC, kyC, Nat.beq, Nat.ble, rcd, rno, rsw, Nat.reduceAdd, Nat.reduceBEq, Nat.reduceDiv, List.drop, List.take, List.reverse, List.reverseAux, Int.toNat, Option.toList, List.append, List.cons_append, List.nil_append]
  try dsimp only [Qz_bitq]
  refine ⟨_, rfl, ?_, rfl⟩
  show _ = bitQ p0.toInt
  unfold bitQ
  rw [show Int32.ofInt p0.toInt = p0 from Int32.ofInt_toInt p0]
theorem wz_bitq : ∀ (L : Nat) (As : List AvC) (σ : CsC) (w : Option AvC) (τ : CsC), EvF L 222 As σ w τ → Uz_bitq As σ w τ := by
  intro L
  cases L with
  | zero => exact fun _ _ _ _ h => h.elim
  | succ L => exact fun As σ w τ h y hy => EvF.us (cs := []) (pz_bitq y) rfl (fun _ h => absurd h List.not_mem_nil) h hy
abbrev Pz_toAside : ((Int → Int) × (Nat → Nat) × (Nat → Nat) × (Nat → Nat) × (Nat → Nat) × ZS × WzS) → CpC := fun y As σ => match y with
  | (N, E, A, B, V, z, u) => ∃ (p1 : Int64), As = [.inr (.inr (some (E 4))), .inr (.inl p1)] ∧ (WzC E σ u)
abbrev Qz_toAside : ((Int → Int) × (Nat → Nat) × (Nat → Nat) × (Nat → Nat) × (Nat → Nat) × ZS × WzS) → CqC := fun y As σ w τ => match y, As with
  | (N, E, A, B, V, z, u), [_, .inr (.inl p1)] => w = none ∧ WzC E τ (toA p1 u)
  | _, _ => True
abbrev Uz_toAside : CqC := fun As σ w τ => ∀ y, Pz_toAside y As σ → Qz_toAside y As σ w τ
set_option maxHeartbeats 4000000 in
theorem pz_toAside (y : (Int → Int) × (Nat → Nat) × (Nat → Nat) × (Nat → Nat) × (Nat → Nat) × ZS × WzS) : PbC KX2_toAside [] [] (fun As σ => Pz_toAside y As σ ∧ cnC σ ≤ 1000000 ∧ ∃ w τ, uqC quL 46 As σ w τ) (Qz_toAside y) := by
  obtain ⟨N, E, A, B, V, z, u⟩ := y
  rintro As σ ⟨⟨p1, rfl, hWh⟩, hcn, _, _, hQ⟩ K hB hW n_
  have hH : HI0 σ ∧ TyC σ (E 4) 3 := hQ
  obtain ⟨b9, -, eb9, tb9, lb9, -⟩ := cg93 hH.1 hH.2
  obtain rfl : E 93 = b9 := Option.some.inj (hWh.2.1.2.1.symm.trans eb9)
  have hl500 : (nI (alC σ (E 93))).toInt = 500 := by rw [lb9]; decide
  have hlen := hWh.2.1.1
  have hl93 := hWh.2.1.2.2
  change K n_ 0 [(0, .inr (.inr (some (E 4)))), (1, .inr (.inl p1))] [] σ
  refine hB _ _ _ _ _ (fun m51 hm51 => ?_)
  dsimp only [ucgo, ucwp, ucsC, uqC, uoC, ctC, rfd, KX2_toAside, KX2_toAside_0, KX2_toAside_12, KX2_toAside_32, lkC, s1C, s2C, dlC, kyC, Nat.beq, Nat.ble, rcd, rno, rsw, Nat.reduceAdd, Nat.reduceBEq, Nat.reduceDiv, List.drop, List.take, List.reverse, List.reverseAux, Int.toNat, Option.toList, List.append, List.cons_append, List.nil_append, zg93, zg94]
  intro a52 e52 ob52
  cases e52
  have f53 : (fIC σ (E 4) 94).toInt = (u.2.2.1.length : Int) := hWh.1.2.2
  intro a54 e54 ob54
  cases e54
  intro a55 e55
  obtain rfl : E 93 = a55 := Option.some.inj (hWh.2.1.2.1.symm.trans e55)
  refine ⟨fun l1_55 l2_55 l3_55 l4_55 => ?_, fun n55 l5_55 => absurd l5_55 (by omega)⟩
  refine ⟨fun h56 => ?_, fun h56 => ?_⟩
  · have g56 := leI (x := (nI (alC σ (E 93)))) (y := (fIC σ (E 4) 94)) h56
    refine hB _ _ _ _ _ (fun m57 hm57 => ?_)
    dsimp only [ucgo, ucwp, ucsC, uqC, uoC, ctC, rfd, KX2_toAside, KX2_toAside_0, KX2_toAside_12, KX2_toAside_32, lkC, s1C, s2C, dlC, kyC, Nat.beq, Nat.ble, rcd, rno, rsw, Nat.reduceAdd, Nat.reduceBEq, Nat.reduceDiv, List.drop, List.take, List.reverse, List.reverseAux, Int.toNat, Option.toList, List.append, List.cons_append, List.nil_append, zg93, zg94]
    try dsimp only [Qz_toAside]
    exact fun τ9 h9 => ⟨rfl, by unfold toA; rw [if_neg (by omega)]; exact hWh.we h9⟩
  · have g56 := nleI (x := (nI (alC σ (E 93)))) (y := (fIC σ (E 4) 94)) h56
    refine hB _ _ _ _ _ (fun m58 hm58 => ?_)
    dsimp only [ucgo, ucwp, ucsC, uqC, uoC, ctC, rfd, KX2_toAside, KX2_toAside_0, KX2_toAside_12, KX2_toAside_32, lkC, s1C, s2C, dlC, kyC, Nat.beq, Nat.ble, rcd, rno, rsw, Nat.reduceAdd, Nat.reduceBEq, Nat.reduceDiv, List.drop, List.take, List.reverse, List.reverseAux, Int.toNat, Option.toList, List.append, List.cons_append, List.nil_append, zg93, zg94]
    intro a59 e59 ob59
    cases e59
    intro a60 e60 ob60
    cases e60
    have f61 : (fIC σ (E 4) 94).toInt = (u.2.2.1.length : Int) := hWh.1.2.2
    intro a62 e62 t62 v62
    obtain rfl : E 93 = a62 := Option.some.inj (hWh.2.1.2.1.symm.trans e62)
    generalize hs62 : qLC σ (E 93) (vp_updL (eLC σ (E 93)) (fIC σ (E 4) 94).toNatClampNeg p1) = s62
    have hWi62 : (fIC s62 (E 4) 94) = fIC σ (E 4) 94 := by rw [← hs62]; rfl
    intro a63 e63 ob63
    cases e63
    have f64 : (fIC s62 (E 4) 94).toInt = (u.2.2.1.length : Int) := by rw [hWi62]; exact hWh.1.2.2
    have c65 : (Int32.ofInt 1).toInt = 1 := by decide
    have u66 := tiC (fIC s62 (E 4) 94)
    have a66 : ((fIC s62 (E 4) 94) + (Int32.ofInt 1)).toInt = (u.2.2.1.length : Int) + 1 := addC (by omega) (by omega) (by omega)
    intro a67 e67 ob67 fk67
    cases e67
    clear fk67 ob67
    generalize hs67 : pIC s62 (E 4) 94 ((fIC s62 (E 4) 94) + (Int32.ofInt 1)) = s67
    refine hB _ _ _ _ _ (fun m68 hm68 => ?_)
    dsimp only [ucgo, ucwp, ucsC, uqC, uoC, ctC, rfd, KX2_toAside, KX2_toAside_0, KX2_toAside_12, KX2_toAside_32, lkC, s1C, s2C, dlC, kyC, Nat.beq, Nat.ble, rcd, rno, rsw, Nat.reduceAdd, Nat.reduceBEq, Nat.reduceDiv, List.drop, List.take, List.reverse, List.reverseAux, Int.toNat, Option.toList, List.append, List.cons_append, List.nil_append, zg93, zg94]
    try dsimp only [Qz_toAside]
    exact fun τ9 h9 => ⟨rfl, (WzC.to hWh (by rw [nT_toNat]; omega) (by omega) hs62 hs67 (by omega)).we h9⟩
theorem wz_toAside : ∀ (L : Nat) (As : List AvC) (σ : CsC) (w : Option AvC) (τ : CsC), EvF L 46 As σ w τ → Uz_toAside As σ w τ := by
  intro L
  cases L with
  | zero => exact fun _ _ _ _ h => h.elim
  | succ L => exact fun As σ w τ h y hy => EvF.us (cs := []) (pz_toAside y) rfl (fun _ h => absurd h List.not_mem_nil) h hy
abbrev Pz_fromAside : ((Int → Int) × (Nat → Nat) × (Nat → Nat) × (Nat → Nat) × (Nat → Nat) × ZS × WzS) → CpC := fun y As σ => match y with
  | (N, E, A, B, V, z, u) => As = [.inr (.inr (some (E 4)))] ∧ (WzC E σ u)
abbrev Qz_fromAside : ((Int → Int) × (Nat → Nat) × (Nat → Nat) × (Nat → Nat) × (Nat → Nat) × ZS × WzS) → CqC := fun y As σ w τ => match y, As with
  | (N, E, A, B, V, z, u), [_] => ∃ r, w = some (.inr (.inl r)) ∧ r = (frA u).1 ∧ WzC E τ (frA u).2
  | _, _ => True
abbrev Uz_fromAside : CqC := fun As σ w τ => ∀ y, Pz_fromAside y As σ → Qz_fromAside y As σ w τ
set_option maxHeartbeats 4000000 in
theorem pz_fromAside (y : (Int → Int) × (Nat → Nat) × (Nat → Nat) × (Nat → Nat) × (Nat → Nat) × ZS × WzS) : PbC KX2_fromAside [] [] (fun As σ => Pz_fromAside y As σ ∧ cnC σ ≤ 1000000 ∧ ∃ w τ, uqC quL 47 As σ w τ) (Qz_fromAside y) := by
  obtain ⟨N, E, A, B, V, z, u⟩ := y
  rintro As σ ⟨⟨rfl, hWh⟩, hcn, _, _, hQ⟩ K hB hW n_
  have hlen := hWh.2.1.1
  change K n_ 0 [(0, .inr (.inr (some (E 4))))] [] σ
  refine hB _ _ _ _ _ (fun m51 hm51 => ?_)
  dsimp only [ucgo, ucwp, ucsC, uqC, uoC, ctC, rfd, KX2_fromAside, KX2_fromAside_0, KX2_fromAside_7, KX2_fromAside_11, lkC, s1C, s2C, dlC, kyC, Nat.beq, Nat.ble, rcd, rno, rsw, Nat.reduceAdd, Nat.reduceBEq, Nat.reduceDiv, List.drop, List.take, List.reverse, List.reverseAux, Int.toNat, Option.toList, List.append, List.cons_append, List.nil_append, zg93, zg94]
  intro a52 e52 ob52
  cases e52
  have f53 : (fIC σ (E 4) 94).toInt = (u.2.2.1.length : Int) := hWh.1.2.2
  refine ⟨fun h54 => ?_, fun h54 => ?_⟩
  · have g54 := (neI (x := (fIC σ (E 4) 94)) (y := 0) h54 : ¬ ((fIC σ (E 4) 94) : Int32).toInt = (0 : Int32).toInt)
    have z0_ : (0 : Int32).toInt = 0 := rfl
    refine hB _ _ _ _ _ (fun m55 hm55 => ?_)
    dsimp only [ucgo, ucwp, ucsC, uqC, uoC, ctC, rfd, KX2_fromAside, KX2_fromAside_0, KX2_fromAside_7, KX2_fromAside_11, lkC, s1C, s2C, dlC, kyC, Nat.beq, Nat.ble, rcd, rno, rsw, Nat.reduceAdd, Nat.reduceBEq, Nat.reduceDiv, List.drop, List.take, List.reverse, List.reverseAux, Int.toNat, Option.toList, List.append, List.cons_append, List.nil_append, zg93, zg94]
    intro a56 e56 ob56
    cases e56
    have f57 : (fIC σ (E 4) 94).toInt = (u.2.2.1.length : Int) := hWh.1.2.2
    have c58 : (Int32.ofInt 1).toInt = 1 := by decide
    have u59 := tiC (fIC σ (E 4) 94)
    have a59 : ((fIC σ (E 4) 94) - (Int32.ofInt 1)).toInt = (u.2.2.1.length : Int) - 1 := subC (by omega) (by omega) (by omega)
    intro a60 e60 ob60 fk60
    cases e60
    clear fk60 ob60
    generalize hs60 : pIC σ (E 4) 94 ((fIC σ (E 4) 94) - (Int32.ofInt 1)) = s60
    obtain ⟨um, ul, hul⟩ : ∃ m l, u.2.2.1 = m :: l := by
      cases hc : u.2.2.1 with
      | nil => exact absurd (show u.2.2.1.length = 0 by rw [hc]; rfl) (by omega)
      | cons m l => exact ⟨m, l, rfl⟩
    have hln : u.2.2.1.length = ul.length + 1 := by rw [hul, List.length_cons]
    have hfo := WzC.fo hWh hul hs60 (by omega)
    intro a61 e61 ob61
    cases e61
    intro a62 e62 ob62
    cases e62
    have f63 : (fIC s60 (E 4) 94).toInt = (ul.length : Int) := hfo.1.1.2.2
    intro a64 e64 t64 v64
    obtain rfl : E 93 = a64 := Option.some.inj (hfo.1.2.1.2.1.symm.trans e64)
    try dsimp only [Qz_fromAside]
    refine ⟨_, rfl, ?_, ?_⟩
    · rw [frA_c hul, nT_toNat, show (fIC s60 (E 4) 94).toInt.toNat = ul.length by omega]
      exact hfo.2
    · rw [frA_c hul]
      exact hfo.1
  · have g54 := (eqI (x := (fIC σ (E 4) 94)) (y := 0) h54 : ((fIC σ (E 4) 94) : Int32).toInt = (0 : Int32).toInt)
    have z0_ : (0 : Int32).toInt = 0 := rfl
    refine hB _ _ _ _ _ (fun m65 hm65 => ?_)
    dsimp only [ucgo, ucwp, ucsC, uqC, uoC, ctC, rfd, KX2_fromAside, KX2_fromAside_0, KX2_fromAside_7, KX2_fromAside_11, lkC, s1C, s2C, dlC, kyC, Nat.beq, Nat.ble, rcd, rno, rsw, Nat.reduceAdd, Nat.reduceBEq, Nat.reduceDiv, List.drop, List.take, List.reverse, List.reverseAux, Int.toNat, Option.toList, List.append, List.cons_append, List.nil_append, zg93, zg94]
    try dsimp only [Qz_fromAside]
    have hul : u.2.2.1 = [] := List.eq_nil_of_length_eq_zero (by omega)
    refine ⟨_, rfl, ?_, ?_⟩
    · rw [frA_n hul]; rfl
    · rw [frA_n hul]; exact hWh
theorem wz_fromAside : ∀ (L : Nat) (As : List AvC) (σ : CsC) (w : Option AvC) (τ : CsC), EvF L 47 As σ w τ → Uz_fromAside As σ w τ := by
  intro L
  cases L with
  | zero => exact fun _ _ _ _ h => h.elim
  | succ L => exact fun As σ w τ h y hy => EvF.us (cs := []) (pz_fromAside y) rfl (fun _ h => absurd h List.not_mem_nil) h hy
abbrev Pz_join : ((Int → Int) × (Nat → Nat) × (Nat → Nat) × (Nat → Nat) × (Nat → Nat) × ZS × TbT × MfT × Nat × WzS × Nat) → CpC := fun y As σ => match y with
  | (N, E, A, B, V, z, T, ms, nm, u, k) => ∃ (p1 : Nat) (p2 : Int64), As = [.inr (.inr (some (E 4))), .inr (.inr (some p1)), .inr (.inl p2)] ∧ (SsC E A B σ z T ms nm) ∧ (PfC E σ) ∧ (WzC E σ u) ∧ (k < xnM z) ∧ (p1 = A k)
abbrev Qz_join : ((Int → Int) × (Nat → Nat) × (Nat → Nat) × (Nat → Nat) × (Nat → Nat) × ZS × TbT × MfT × Nat × WzS × Nat) → CqC := fun y As σ w τ => match y, As with
  | (N, E, A, B, V, z, T, ms, nm, u, k), [_, .inr (.inr (some p1)), .inr (.inl p2)] => w = none ∧ WzC E τ (jnT (T.1 k) p2 u)
  | _, _ => True
abbrev Uz_join : CqC := fun As σ w τ => ∀ y, Pz_join y As σ → Qz_join y As σ w τ
set_option maxHeartbeats 4000000 in
theorem pz_join (y : (Int → Int) × (Nat → Nat) × (Nat → Nat) × (Nat → Nat) × (Nat → Nat) × ZS × TbT × MfT × Nat × WzS × Nat) : PbC KX2_join [] [] (fun As σ => Pz_join y As σ ∧ cnC σ ≤ 1000000 ∧ ∃ w τ, uqC quL 45 As σ w τ) (Qz_join y) := by
  obtain ⟨N, E, A, B, V, z, T, ms, nm, u, k⟩ := y
  rintro As σ ⟨⟨p1, p2, rfl, hSs, hPf, hWh, hk, hp⟩, hcn, _, _, hQ⟩ K hB hW n_
  have op : (TwC σ p1 (T.1 k) ∧ XzC σ (xth z k) k p1 ∧ (¬ (xth z k).1.1 = 10 → (fIC σ p1 67).toInt = (xth z k).2.1.2.1)) ∧ p1 < cnC σ := by rw [hp]; exact hSs.2.1 k hk
  change K n_ 0 [(0, .inr (.inr (some (E 4)))), (1, .inr (.inr (some p1))), (2, .inr (.inl p2))] [] σ
  refine hB _ _ _ _ _ (fun m51 hm51 => ?_)
  dsimp only [ucgo, ucwp, ucsC, uqC, uoC, ctC, rfd, KX2_join, KX2_join_0, KX2_join_20, KX2_join_27, KX2_join_31, KX2_join_32, KX2_join_40, KX2_join_49, KX2_join_55, KX2_join_57, KX2_join_66, KX2_join_75, KX2_join_81, KX2_join_83, lkC, s1C, s2C, dlC, kyC, Nat.beq, Nat.ble, rcd, rno, rsw, Nat.reduceAdd, Nat.reduceBEq, Nat.reduceDiv, List.drop, List.take, List.reverse, List.reverseAux, Int.toNat, Option.toList, List.append, List.cons_append, List.nil_append, zg68, zg70, zg71, zg91, zg92]
  intro a52 e52 ob52
  cases e52
  have f53 : (fLC σ (E 4) 91) = u.1 := hWh.1.1
  intro a54 e54 ob54
  cases e54
  have f55 : (fLC σ (E 4) 92) = u.2.1 := hWh.1.2.1
  intro a56 e56 ob56
  cases e56
  have f57 : (fIC σ p1 70).toInt = (T.1 k).2.1 := op.1.1.2.1
  refine ⟨fun h58 => ?_, fun h58 => ?_⟩
  · have g58 := (eqI (x := (fIC σ p1 70)) (y := 0) h58 : ((fIC σ p1 70) : Int32).toInt = (0 : Int32).toInt)
    have z0_ : (0 : Int32).toInt = 0 := rfl
    have hfx : fxT (T.1 k) = false := by
      unfold fxT
      first
        | (rw [decide_eq_false (show ¬ ¬ (T.1 k).2.1 = 0 by omega)]; rfl)
        | (rw [decide_eq_false (show ¬ (T.1 k).1 = 0 by omega), Bool.and_false])
    refine hB _ _ _ _ _ (fun m59 hm59 => ?_)
    dsimp only [ucgo, ucwp, ucsC, uqC, uoC, ctC, rfd, KX2_join, KX2_join_0, KX2_join_20, KX2_join_27, KX2_join_31, KX2_join_32, KX2_join_40, KX2_join_49, KX2_join_55, KX2_join_57, KX2_join_66, KX2_join_75, KX2_join_81, KX2_join_83, lkC, s1C, s2C, dlC, kyC, Nat.beq, Nat.ble, rcd, rno, rsw, Nat.reduceAdd, Nat.reduceBEq, Nat.reduceDiv, List.drop, List.take, List.reverse, List.reverseAux, Int.toNat, Option.toList, List.append, List.cons_append, List.nil_append, zg68, zg70, zg71, zg91, zg92]
    have c60 : (Int32.ofInt 0).toInt = 0 := by decide
    refine hB _ _ _ _ _ (fun m61 hm61 => ?_)
    dsimp only [ucgo, ucwp, ucsC, uqC, uoC, ctC, rfd, KX2_join, KX2_join_0, KX2_join_20, KX2_join_27, KX2_join_31, KX2_join_32, KX2_join_40, KX2_join_49, KX2_join_55, KX2_join_57, KX2_join_66, KX2_join_75, KX2_join_81, KX2_join_83, lkC, s1C, s2C, dlC, kyC, Nat.beq, Nat.ble, rcd, rno, rsw, Nat.reduceAdd, Nat.reduceBEq, Nat.reduceDiv, List.drop, List.take, List.reverse, List.reverseAux, Int.toNat, Option.toList, List.append, List.cons_append, List.nil_append, zg68, zg70, zg71, zg91, zg92]
    refine ⟨fun h62 => ?_, fun h62 => ?_⟩
    · have g62 := (eqI (x := (Int32.ofInt 0)) (y := 0) h62 : ((Int32.ofInt 0) : Int32).toInt = (0 : Int32).toInt)
      have z0_ : (0 : Int32).toInt = 0 := rfl
      have hz0 : (fxT (T.1 k) && decide ((T.1 k).2.2.1 = zerB)) = false := by rw [hfx]; rfl
      refine hB _ _ _ _ _ (fun m63 hm63 => ?_)
      dsimp only [ucgo, ucwp, ucsC, uqC, uoC, ctC, rfd, KX2_join, KX2_join_0, KX2_join_20, KX2_join_27, KX2_join_31, KX2_join_32, KX2_join_40, KX2_join_49, KX2_join_55, KX2_join_57, KX2_join_66, KX2_join_75, KX2_join_81, KX2_join_83, lkC, s1C, s2C, dlC, kyC, Nat.beq, Nat.ble, rcd, rno, rsw, Nat.reduceAdd, Nat.reduceBEq, Nat.reduceDiv, List.drop, List.take, List.reverse, List.reverseAux, Int.toNat, Option.toList, List.append, List.cons_append, List.nil_append, zg68, zg70, zg71, zg91, zg92]
      refine hB _ _ _ _ _ (fun m64 hm64 => ?_)
      dsimp only [ucgo, ucwp, ucsC, uqC, uoC, ctC, rfd, KX2_join, KX2_join_0, KX2_join_20, KX2_join_27, KX2_join_31, KX2_join_32, KX2_join_40, KX2_join_49, KX2_join_55, KX2_join_57, KX2_join_66, KX2_join_75, KX2_join_81, KX2_join_83, lkC, s1C, s2C, dlC, kyC, Nat.beq, Nat.ble, rcd, rno, rsw, Nat.reduceAdd, Nat.reduceBEq, Nat.reduceDiv, List.drop, List.take, List.reverse, List.reverseAux, Int.toNat, Option.toList, List.append, List.cons_append, List.nil_append, zg68, zg70, zg71, zg91, zg92]
      intro a65 e65 ob65 fk65
      cases e65
      clear fk65 ob65
      generalize hs65 : pLC σ (E 4) 91 (((fLC σ (E 4) 91) &&& (fLC σ (E 4) 92)) ||| p2) = s65
      have hWh65 := WzC.t hWh hs65
      have hF65 : FrE [91, 92, 94, 217, 218, 285, 286, 287, 288, 901] σ s65 := FrE.pL2 FrE.rf (by decide) hs65
      have hSs_65 := SsC.fr hSs hF65 rfl
      have hPf_65 := PfC.fr hPf hF65 rfl
      have op_65 : (TwC s65 p1 (T.1 k) ∧ XzC s65 (xth z k) k p1 ∧ (¬ (xth z k).1.1 = 10 → (fIC s65 p1 67).toInt = (xth z k).2.1.2.1)) ∧ p1 < cnC s65 := by rw [hp]; exact hSs_65.2.1 k hk
      refine ⟨fun h66 => ?_, fun h66 => ?_⟩
      · have g66 := (eqI (x := (Int32.ofInt 0)) (y := 0) h66 : ((Int32.ofInt 0) : Int32).toInt = (0 : Int32).toInt)
        have z0_ : (0 : Int32).toInt = 0 := rfl
        have hz1 : (fxT (T.1 k) && decide ((T.1 k).2.2.1 = Int64.ofNat ((1 : Fin 2) : Nat))) = false := by rw [hfx]; rfl
        refine hB _ _ _ _ _ (fun m67 hm67 => ?_)
        dsimp only [ucgo, ucwp, ucsC, uqC, uoC, ctC, rfd, KX2_join, KX2_join_0, KX2_join_20, KX2_join_27, KX2_join_31, KX2_join_32, KX2_join_40, KX2_join_49, KX2_join_55, KX2_join_57, KX2_join_66, KX2_join_75, KX2_join_81, KX2_join_83, lkC, s1C, s2C, dlC, kyC, Nat.beq, Nat.ble, rcd, rno, rsw, Nat.reduceAdd, Nat.reduceBEq, Nat.reduceDiv, List.drop, List.take, List.reverse, List.reverseAux, Int.toNat, Option.toList, List.append, List.cons_append, List.nil_append, zg68, zg70, zg71, zg91, zg92]
        refine hB _ _ _ _ _ (fun m68 hm68 => ?_)
        dsimp only [ucgo, ucwp, ucsC, uqC, uoC, ctC, rfd, KX2_join, KX2_join_0, KX2_join_20, KX2_join_27, KX2_join_31, KX2_join_32, KX2_join_40, KX2_join_49, KX2_join_55, KX2_join_57, KX2_join_66, KX2_join_75, KX2_join_81, KX2_join_83, lkC, s1C, s2C, dlC, kyC, Nat.beq, Nat.ble, rcd, rno, rsw, Nat.reduceAdd, Nat.reduceBEq, Nat.reduceDiv, List.drop, List.take, List.reverse, List.reverseAux, Int.toNat, Option.toList, List.append, List.cons_append, List.nil_append, zg68, zg70, zg71, zg91, zg92]
        intro a69 e69 ob69 fk69
        cases e69
        clear fk69 ob69
        generalize hs69 : pLC s65 (E 4) 92 (((fLC σ (E 4) 91) &&& (fLC σ (E 4) 92)) ||| p2) = s69
        have hWh69 := WzC.f hWh65 hs69
        have hF69 : FrE [91, 92, 94, 217, 218, 285, 286, 287, 288, 901] σ s69 := FrE.pL2 hF65 (by decide) hs69
        have hSs_69 := SsC.fr hSs hF69 rfl
        have hPf_69 := PfC.fr hPf hF69 rfl
        have op_69 : (TwC s69 p1 (T.1 k) ∧ XzC s69 (xth z k) k p1 ∧ (¬ (xth z k).1.1 = 10 → (fIC s69 p1 67).toInt = (xth z k).2.1.2.1)) ∧ p1 < cnC s69 := by rw [hp]; exact hSs_69.2.1 k hk
        try dsimp only [Qz_join]
        have hfin : jnT (T.1 k) p2 u = (((((fLC σ (E 4) 91) &&& (fLC σ (E 4) 92)) ||| p2), u.2).1, (((fLC σ (E 4) 91) &&& (fLC σ (E 4) 92)) ||| p2), ((((fLC σ (E 4) 91) &&& (fLC σ (E 4) 92)) ||| p2), u.2).2.2) := by
          unfold jnT
          rw [hz0, hz1]
          first
            | rfl
            | (rw [hWh.1.1, hWh.1.2.1]; rfl)
            | rw [hWh.1.1, hWh.1.2.1]
        exact fun τ9 h9 => ⟨rfl, by rw [hfin]; exact hWh69.we h9⟩
      · have g66 := (neI (x := (Int32.ofInt 0)) (y := 0) h66 : ¬ ((Int32.ofInt 0) : Int32).toInt = (0 : Int32).toInt)
        have z0_ : (0 : Int32).toInt = 0 := rfl
        exfalso
        omega
    · have g62 := (neI (x := (Int32.ofInt 0)) (y := 0) h62 : ¬ ((Int32.ofInt 0) : Int32).toInt = (0 : Int32).toInt)
      have z0_ : (0 : Int32).toInt = 0 := rfl
      exfalso
      omega
  · have g58 := (neI (x := (fIC σ p1 70)) (y := 0) h58 : ¬ ((fIC σ p1 70) : Int32).toInt = (0 : Int32).toInt)
    have z0_ : (0 : Int32).toInt = 0 := rfl
    refine hB _ _ _ _ _ (fun m70 hm70 => ?_)
    dsimp only [ucgo, ucwp, ucsC, uqC, uoC, ctC, rfd, KX2_join, KX2_join_0, KX2_join_20, KX2_join_27, KX2_join_31, KX2_join_32, KX2_join_40, KX2_join_49, KX2_join_55, KX2_join_57, KX2_join_66, KX2_join_75, KX2_join_81, KX2_join_83, lkC, s1C, s2C, dlC, kyC, Nat.beq, Nat.ble, rcd, rno, rsw, Nat.reduceAdd, Nat.reduceBEq, Nat.reduceDiv, List.drop, List.take, List.reverse, List.reverseAux, Int.toNat, Option.toList, List.append, List.cons_append, List.nil_append, zg68, zg70, zg71, zg91, zg92]
    intro a71 e71 ob71
    cases e71
    have f72 : (fIC σ p1 68).toInt = (T.1 k).1 := op.1.1.1
    refine ⟨fun h73 => ?_, fun h73 => ?_⟩
    · have g73 := (neI (x := (fIC σ p1 68)) (y := 0) h73 : ¬ ((fIC σ p1 68) : Int32).toInt = (0 : Int32).toInt)
      have z0_ : (0 : Int32).toInt = 0 := rfl
      have hfx : fxT (T.1 k) = false := by
        unfold fxT
        first
          | (rw [decide_eq_false (show ¬ ¬ (T.1 k).2.1 = 0 by omega)]; rfl)
          | (rw [decide_eq_false (show ¬ (T.1 k).1 = 0 by omega), Bool.and_false])
      refine hB _ _ _ _ _ (fun m74 hm74 => ?_)
      dsimp only [ucgo, ucwp, ucsC, uqC, uoC, ctC, rfd, KX2_join, KX2_join_0, KX2_join_20, KX2_join_27, KX2_join_31, KX2_join_32, KX2_join_40, KX2_join_49, KX2_join_55, KX2_join_57, KX2_join_66, KX2_join_75, KX2_join_81, KX2_join_83, lkC, s1C, s2C, dlC, kyC, Nat.beq, Nat.ble, rcd, rno, rsw, Nat.reduceAdd, Nat.reduceBEq, Nat.reduceDiv, List.drop, List.take, List.reverse, List.reverseAux, Int.toNat, Option.toList, List.append, List.cons_append, List.nil_append, zg68, zg70, zg71, zg91, zg92]
      have c75 : (Int32.ofInt 0).toInt = 0 := by decide
      refine hB _ _ _ _ _ (fun m76 hm76 => ?_)
      dsimp only [ucgo, ucwp, ucsC, uqC, uoC, ctC, rfd, KX2_join, KX2_join_0, KX2_join_20, KX2_join_27, KX2_join_31, KX2_join_32, KX2_join_40, KX2_join_49, KX2_join_55, KX2_join_57, KX2_join_66, KX2_join_75, KX2_join_81, KX2_join_83, lkC, s1C, s2C, dlC, kyC, Nat.beq, Nat.ble, rcd, rno, rsw, Nat.reduceAdd, Nat.reduceBEq, Nat.reduceDiv, List.drop, List.take, List.reverse, List.reverseAux, Int.toNat, Option.toList, List.append, List.cons_append, List.nil_append, zg68, zg70, zg71, zg91, zg92]
      refine ⟨fun h77 => ?_, fun h77 => ?_⟩
      · have g77 := (eqI (x := (Int32.ofInt 0)) (y := 0) h77 : ((Int32.ofInt 0) : Int32).toInt = (0 : Int32).toInt)
        have z0_ : (0 : Int32).toInt = 0 := rfl
        have hz0 : (fxT (T.1 k) && decide ((T.1 k).2.2.1 = zerB)) = false := by rw [hfx]; rfl
        refine hB _ _ _ _ _ (fun m78 hm78 => ?_)
        dsimp only [ucgo, ucwp, ucsC, uqC, uoC, ctC, rfd, KX2_join, KX2_join_0, KX2_join_20, KX2_join_27, KX2_join_31, KX2_join_32, KX2_join_40, KX2_join_49, KX2_join_55, KX2_join_57, KX2_join_66, KX2_join_75, KX2_join_81, KX2_join_83, lkC, s1C, s2C, dlC, kyC, Nat.beq, Nat.ble, rcd, rno, rsw, Nat.reduceAdd, Nat.reduceBEq, Nat.reduceDiv, List.drop, List.take, List.reverse, List.reverseAux, Int.toNat, Option.toList, List.append, List.cons_append, List.nil_append, zg68, zg70, zg71, zg91, zg92]
        refine hB _ _ _ _ _ (fun m79 hm79 => ?_)
        dsimp only [ucgo, ucwp, ucsC, uqC, uoC, ctC, rfd, KX2_join, KX2_join_0, KX2_join_20, KX2_join_27, KX2_join_31, KX2_join_32, KX2_join_40, KX2_join_49, KX2_join_55, KX2_join_57, KX2_join_66, KX2_join_75, KX2_join_81, KX2_join_83, lkC, s1C, s2C, dlC, kyC, Nat.beq, Nat.ble, rcd, rno, rsw, Nat.reduceAdd, Nat.reduceBEq, Nat.reduceDiv, List.drop, List.take, List.reverse, List.reverseAux, Int.toNat, Option.toList, List.append, List.cons_append, List.nil_append, zg68, zg70, zg71, zg91, zg92]
        intro a80 e80 ob80 fk80
        cases e80
        clear fk80 ob80
        generalize hs80 : pLC σ (E 4) 91 (((fLC σ (E 4) 91) &&& (fLC σ (E 4) 92)) ||| p2) = s80
        have hWh80 := WzC.t hWh hs80
        have hF80 : FrE [91, 92, 94, 217, 218, 285, 286, 287, 288, 901] σ s80 := FrE.pL2 FrE.rf (by decide) hs80
        have hSs_80 := SsC.fr hSs hF80 rfl
        have hPf_80 := PfC.fr hPf hF80 rfl
        have op_80 : (TwC s80 p1 (T.1 k) ∧ XzC s80 (xth z k) k p1 ∧ (¬ (xth z k).1.1 = 10 → (fIC s80 p1 67).toInt = (xth z k).2.1.2.1)) ∧ p1 < cnC s80 := by rw [hp]; exact hSs_80.2.1 k hk
        refine ⟨fun h81 => ?_, fun h81 => ?_⟩
        · have g81 := (eqI (x := (Int32.ofInt 0)) (y := 0) h81 : ((Int32.ofInt 0) : Int32).toInt = (0 : Int32).toInt)
          have z0_ : (0 : Int32).toInt = 0 := rfl
          have hz1 : (fxT (T.1 k) && decide ((T.1 k).2.2.1 = Int64.ofNat ((1 : Fin 2) : Nat))) = false := by rw [hfx]; rfl
          refine hB _ _ _ _ _ (fun m82 hm82 => ?_)
          dsimp only [ucgo, ucwp, ucsC, uqC, uoC, ctC, rfd, KX2_join, KX2_join_0, KX2_join_20, KX2_join_27, KX2_join_31, KX2_join_32, KX2_join_40, KX2_join_49, KX2_join_55, KX2_join_57, KX2_join_66, KX2_join_75, KX2_join_81, KX2_join_83, lkC, s1C, s2C, dlC, kyC, Nat.beq, Nat.ble, rcd, rno, rsw, Nat.reduceAdd, Nat.reduceBEq, Nat.reduceDiv, List.drop, List.take, List.reverse, List.reverseAux, Int.toNat, Option.toList, List.append, List.cons_append, List.nil_append, zg68, zg70, zg71, zg91, zg92]
          refine hB _ _ _ _ _ (fun m83 hm83 => ?_)
          dsimp only [ucgo, ucwp, ucsC, uqC, uoC, ctC, rfd, KX2_join, KX2_join_0, KX2_join_20, KX2_join_27, KX2_join_31, KX2_join_32, KX2_join_40, KX2_join_49, KX2_join_55, KX2_join_57, KX2_join_66, KX2_join_75, KX2_join_81, KX2_join_83, lkC, s1C, s2C, dlC, kyC, Nat.beq, Nat.ble, rcd, rno, rsw, Nat.reduceAdd, Nat.reduceBEq, Nat.reduceDiv, List.drop, List.take, List.reverse, List.reverseAux, Int.toNat, Option.toList, List.append, List.cons_append, List.nil_append, zg68, zg70, zg71, zg91, zg92]
          intro a84 e84 ob84 fk84
          cases e84
          clear fk84 ob84
          generalize hs84 : pLC s80 (E 4) 92 (((fLC σ (E 4) 91) &&& (fLC σ (E 4) 92)) ||| p2) = s84
          have hWh84 := WzC.f hWh80 hs84
          have hF84 : FrE [91, 92, 94, 217, 218, 285, 286, 287, 288, 901] σ s84 := FrE.pL2 hF80 (by decide) hs84
          have hSs_84 := SsC.fr hSs hF84 rfl
          have hPf_84 := PfC.fr hPf hF84 rfl
          have op_84 : (TwC s84 p1 (T.1 k) ∧ XzC s84 (xth z k) k p1 ∧ (¬ (xth z k).1.1 = 10 → (fIC s84 p1 67).toInt = (xth z k).2.1.2.1)) ∧ p1 < cnC s84 := by rw [hp]; exact hSs_84.2.1 k hk
          try dsimp only [Qz_join]
          have hfin : jnT (T.1 k) p2 u = (((((fLC σ (E 4) 91) &&& (fLC σ (E 4) 92)) ||| p2), u.2).1, (((fLC σ (E 4) 91) &&& (fLC σ (E 4) 92)) ||| p2), ((((fLC σ (E 4) 91) &&& (fLC σ (E 4) 92)) ||| p2), u.2).2.2) := by
            unfold jnT
            rw [hz0, hz1]
            first
              | rfl
              | (rw [hWh.1.1, hWh.1.2.1]; rfl)
              | rw [hWh.1.1, hWh.1.2.1]
          exact fun τ9 h9 => ⟨rfl, by rw [hfin]; exact hWh84.we h9⟩
        · have g81 := (neI (x := (Int32.ofInt 0)) (y := 0) h81 : ¬ ((Int32.ofInt 0) : Int32).toInt = (0 : Int32).toInt)
          have z0_ : (0 : Int32).toInt = 0 := rfl
          exfalso
          omega
      · have g77 := (neI (x := (Int32.ofInt 0)) (y := 0) h77 : ¬ ((Int32.ofInt 0) : Int32).toInt = (0 : Int32).toInt)
        have z0_ : (0 : Int32).toInt = 0 := rfl
        exfalso
        omega
    · have g73 := (eqI (x := (fIC σ p1 68)) (y := 0) h73 : ((fIC σ p1 68) : Int32).toInt = (0 : Int32).toInt)
      have z0_ : (0 : Int32).toInt = 0 := rfl
      have hfx : fxT (T.1 k) = true := by unfold fxT; rw [decide_eq_true (show ¬ (T.1 k).2.1 = 0 by omega), decide_eq_true (show (T.1 k).1 = 0 by omega)]; rfl
      refine hB _ _ _ _ _ (fun m85 hm85 => ?_)
      dsimp only [ucgo, ucwp, ucsC, uqC, uoC, ctC, rfd, KX2_join, KX2_join_0, KX2_join_20, KX2_join_27, KX2_join_31, KX2_join_32, KX2_join_40, KX2_join_49, KX2_join_55, KX2_join_57, KX2_join_66, KX2_join_75, KX2_join_81, KX2_join_83, lkC, s1C, s2C, dlC, kyC, Nat.beq, Nat.ble, rcd, rno, rsw, Nat.reduceAdd, Nat.reduceBEq, Nat.reduceDiv, List.drop, List.take, List.reverse, List.reverseAux, Int.toNat, Option.toList, List.append, List.cons_append, List.nil_append, zg68, zg70, zg71, zg91, zg92]
      have c86 : (Int32.ofInt 1).toInt = 1 := by decide
      refine hB _ _ _ _ _ (fun m87 hm87 => ?_)
      dsimp only [ucgo, ucwp, ucsC, uqC, uoC, ctC, rfd, KX2_join, KX2_join_0, KX2_join_20, KX2_join_27, KX2_join_31, KX2_join_32, KX2_join_40, KX2_join_49, KX2_join_55, KX2_join_57, KX2_join_66, KX2_join_75, KX2_join_81, KX2_join_83, lkC, s1C, s2C, dlC, kyC, Nat.beq, Nat.ble, rcd, rno, rsw, Nat.reduceAdd, Nat.reduceBEq, Nat.reduceDiv, List.drop, List.take, List.reverse, List.reverseAux, Int.toNat, Option.toList, List.append, List.cons_append, List.nil_append, zg68, zg70, zg71, zg91, zg92]
      refine ⟨fun h88 => ?_, fun h88 => ?_⟩
      · have g88 := (eqI (x := (Int32.ofInt 1)) (y := 0) h88 : ((Int32.ofInt 1) : Int32).toInt = (0 : Int32).toInt)
        have z0_ : (0 : Int32).toInt = 0 := rfl
        exfalso
        omega
      · have g88 := (neI (x := (Int32.ofInt 1)) (y := 0) h88 : ¬ ((Int32.ofInt 1) : Int32).toInt = (0 : Int32).toInt)
        have z0_ : (0 : Int32).toInt = 0 := rfl
        refine hB _ _ _ _ _ (fun m89 hm89 => ?_)
        dsimp only [ucgo, ucwp, ucsC, uqC, uoC, ctC, rfd, KX2_join, KX2_join_0, KX2_join_20, KX2_join_27, KX2_join_31, KX2_join_32, KX2_join_40, KX2_join_49, KX2_join_55, KX2_join_57, KX2_join_66, KX2_join_75, KX2_join_81, KX2_join_83, lkC, s1C, s2C, dlC, kyC, Nat.beq, Nat.ble, rcd, rno, rsw, Nat.reduceAdd, Nat.reduceBEq, Nat.reduceDiv, List.drop, List.take, List.reverse, List.reverseAux, Int.toNat, Option.toList, List.append, List.cons_append, List.nil_append, zg68, zg70, zg71, zg91, zg92]
        intro a90 e90 ob90
        cases e90
        have f91 : (fLC σ p1 71) = (T.1 k).2.2.1 := op.1.1.2.2
        have lc92 : (lg_cmp (fLC σ p1 71) (Int64.ofNat ((0 : Fin 2) : Nat))).toInt = 0 → (fLC σ p1 71) = (Int64.ofNat ((0 : Fin 2) : Nat)) := lcmpC
        have ld92 : (fLC σ p1 71) = (Int64.ofNat ((0 : Fin 2) : Nat)) → (lg_cmp (fLC σ p1 71) (Int64.ofNat ((0 : Fin 2) : Nat))).toInt = 0 := fun e => by rw [e]; exact lcmp0
        refine ⟨fun h93 => ?_, fun h93 => ?_⟩
        · have g93 := (neI (x := (lg_cmp (fLC σ p1 71) (Int64.ofNat ((0 : Fin 2) : Nat)))) (y := 0) h93 : ¬ ((lg_cmp (fLC σ p1 71) (Int64.ofNat ((0 : Fin 2) : Nat))) : Int32).toInt = (0 : Int32).toInt)
          have z0_ : (0 : Int32).toInt = 0 := rfl
          have hz0 : (fxT (T.1 k) && decide ((T.1 k).2.2.1 = zerB)) = false := by rw [decide_eq_false (show ¬ (T.1 k).2.2.1 = zerB from fun q9 => absurd (ld92 (f91.trans q9)) (by omega)), Bool.and_false]
          refine hB _ _ _ _ _ (fun m94 hm94 => ?_)
          dsimp only [ucgo, ucwp, ucsC, uqC, uoC, ctC, rfd, KX2_join, KX2_join_0, KX2_join_20, KX2_join_27, KX2_join_31, KX2_join_32, KX2_join_40, KX2_join_49, KX2_join_55, KX2_join_57, KX2_join_66, KX2_join_75, KX2_join_81, KX2_join_83, lkC, s1C, s2C, dlC, kyC, Nat.beq, Nat.ble, rcd, rno, rsw, Nat.reduceAdd, Nat.reduceBEq, Nat.reduceDiv, List.drop, List.take, List.reverse, List.reverseAux, Int.toNat, Option.toList, List.append, List.cons_append, List.nil_append, zg68, zg70, zg71, zg91, zg92]
          refine hB _ _ _ _ _ (fun m95 hm95 => ?_)
          dsimp only [ucgo, ucwp, ucsC, uqC, uoC, ctC, rfd, KX2_join, KX2_join_0, KX2_join_20, KX2_join_27, KX2_join_31, KX2_join_32, KX2_join_40, KX2_join_49, KX2_join_55, KX2_join_57, KX2_join_66, KX2_join_75, KX2_join_81, KX2_join_83, lkC, s1C, s2C, dlC, kyC, Nat.beq, Nat.ble, rcd, rno, rsw, Nat.reduceAdd, Nat.reduceBEq, Nat.reduceDiv, List.drop, List.take, List.reverse, List.reverseAux, Int.toNat, Option.toList, List.append, List.cons_append, List.nil_append, zg68, zg70, zg71, zg91, zg92]
          intro a96 e96 ob96 fk96
          cases e96
          clear fk96 ob96
          generalize hs96 : pLC σ (E 4) 91 (((fLC σ (E 4) 91) &&& (fLC σ (E 4) 92)) ||| p2) = s96
          have hWh96 := WzC.t hWh hs96
          have hF96 : FrE [91, 92, 94, 217, 218, 285, 286, 287, 288, 901] σ s96 := FrE.pL2 FrE.rf (by decide) hs96
          have hSs_96 := SsC.fr hSs hF96 rfl
          have hPf_96 := PfC.fr hPf hF96 rfl
          have op_96 : (TwC s96 p1 (T.1 k) ∧ XzC s96 (xth z k) k p1 ∧ (¬ (xth z k).1.1 = 10 → (fIC s96 p1 67).toInt = (xth z k).2.1.2.1)) ∧ p1 < cnC s96 := by rw [hp]; exact hSs_96.2.1 k hk
          refine ⟨fun h97 => ?_, fun h97 => ?_⟩
          · have g97 := (eqI (x := (Int32.ofInt 1)) (y := 0) h97 : ((Int32.ofInt 1) : Int32).toInt = (0 : Int32).toInt)
            have z0_ : (0 : Int32).toInt = 0 := rfl
            exfalso
            omega
          · have g97 := (neI (x := (Int32.ofInt 1)) (y := 0) h97 : ¬ ((Int32.ofInt 1) : Int32).toInt = (0 : Int32).toInt)
            have z0_ : (0 : Int32).toInt = 0 := rfl
            refine hB _ _ _ _ _ (fun m98 hm98 => ?_)
            dsimp only [ucgo, ucwp, ucsC, uqC, uoC, ctC, rfd, KX2_join, KX2_join_0, KX2_join_20, KX2_join_27, KX2_join_31, KX2_join_32, KX2_join_40, KX2_join_49, KX2_join_55, KX2_join_57, KX2_join_66, KX2_join_75, KX2_join_81, KX2_join_83, lkC, s1C, s2C, dlC, kyC, Nat.beq, Nat.ble, rcd, rno, rsw, Nat.reduceAdd, Nat.reduceBEq, Nat.reduceDiv, List.drop, List.take, List.reverse, List.reverseAux, Int.toNat, Option.toList, List.append, List.cons_append, List.nil_append, zg68, zg70, zg71, zg91, zg92]
            intro a99 e99 ob99
            cases e99
            have f100 : (fLC s96 p1 71) = (T.1 k).2.2.1 := op_96.1.1.2.2
            have lc101 : (lg_cmp (fLC s96 p1 71) (Int64.ofNat ((1 : Fin 2) : Nat))).toInt = 0 → (fLC s96 p1 71) = (Int64.ofNat ((1 : Fin 2) : Nat)) := lcmpC
            have ld101 : (fLC s96 p1 71) = (Int64.ofNat ((1 : Fin 2) : Nat)) → (lg_cmp (fLC s96 p1 71) (Int64.ofNat ((1 : Fin 2) : Nat))).toInt = 0 := fun e => by rw [e]; exact lcmp0
            refine ⟨fun h102 => ?_, fun h102 => ?_⟩
            · have g102 := (neI (x := (lg_cmp (fLC s96 p1 71) (Int64.ofNat ((1 : Fin 2) : Nat)))) (y := 0) h102 : ¬ ((lg_cmp (fLC s96 p1 71) (Int64.ofNat ((1 : Fin 2) : Nat))) : Int32).toInt = (0 : Int32).toInt)
              have z0_ : (0 : Int32).toInt = 0 := rfl
              have hz1 : (fxT (T.1 k) && decide ((T.1 k).2.2.1 = Int64.ofNat ((1 : Fin 2) : Nat))) = false := by rw [decide_eq_false (show ¬ (T.1 k).2.2.1 = Int64.ofNat ((1 : Fin 2) : Nat) from fun q9 => absurd (ld101 (f100.trans q9)) (by omega)), Bool.and_false]
              refine hB _ _ _ _ _ (fun m103 hm103 => ?_)
              dsimp only [ucgo, ucwp, ucsC, uqC, uoC, ctC, rfd, KX2_join, KX2_join_0, KX2_join_20, KX2_join_27, KX2_join_31, KX2_join_32, KX2_join_40, KX2_join_49, KX2_join_55, KX2_join_57, KX2_join_66, KX2_join_75, KX2_join_81, KX2_join_83, lkC, s1C, s2C, dlC, kyC, Nat.beq, Nat.ble, rcd, rno, rsw, Nat.reduceAdd, Nat.reduceBEq, Nat.reduceDiv, List.drop, List.take, List.reverse, List.reverseAux, Int.toNat, Option.toList, List.append, List.cons_append, List.nil_append, zg68, zg70, zg71, zg91, zg92]
              refine hB _ _ _ _ _ (fun m104 hm104 => ?_)
              dsimp only [ucgo, ucwp, ucsC, uqC, uoC, ctC, rfd, KX2_join, KX2_join_0, KX2_join_20, KX2_join_27, KX2_join_31, KX2_join_32, KX2_join_40, KX2_join_49, KX2_join_55, KX2_join_57, KX2_join_66, KX2_join_75, KX2_join_81, KX2_join_83, lkC, s1C, s2C, dlC, kyC, Nat.beq, Nat.ble, rcd, rno, rsw, Nat.reduceAdd, Nat.reduceBEq, Nat.reduceDiv, List.drop, List.take, List.reverse, List.reverseAux, Int.toNat, Option.toList, List.append, List.cons_append, List.nil_append, zg68, zg70, zg71, zg91, zg92]
              intro a105 e105 ob105 fk105
              cases e105
              clear fk105 ob105
              generalize hs105 : pLC s96 (E 4) 92 (((fLC σ (E 4) 91) &&& (fLC σ (E 4) 92)) ||| p2) = s105
              have hWh105 := WzC.f hWh96 hs105
              have hF105 : FrE [91, 92, 94, 217, 218, 285, 286, 287, 288, 901] σ s105 := FrE.pL2 hF96 (by decide) hs105
              have hSs_105 := SsC.fr hSs hF105 rfl
              have hPf_105 := PfC.fr hPf hF105 rfl
              have op_105 : (TwC s105 p1 (T.1 k) ∧ XzC s105 (xth z k) k p1 ∧ (¬ (xth z k).1.1 = 10 → (fIC s105 p1 67).toInt = (xth z k).2.1.2.1)) ∧ p1 < cnC s105 := by rw [hp]; exact hSs_105.2.1 k hk
              try dsimp only [Qz_join]
              have hfin : jnT (T.1 k) p2 u = (((((fLC σ (E 4) 91) &&& (fLC σ (E 4) 92)) ||| p2), u.2).1, (((fLC σ (E 4) 91) &&& (fLC σ (E 4) 92)) ||| p2), ((((fLC σ (E 4) 91) &&& (fLC σ (E 4) 92)) ||| p2), u.2).2.2) := by
                unfold jnT
                rw [hz0, hz1]
                first
                  | rfl
                  | (rw [hWh.1.1, hWh.1.2.1]; rfl)
                  | rw [hWh.1.1, hWh.1.2.1]
              exact fun τ9 h9 => ⟨rfl, by rw [hfin]; exact hWh105.we h9⟩
            · have g102 := (eqI (x := (lg_cmp (fLC s96 p1 71) (Int64.ofNat ((1 : Fin 2) : Nat)))) (y := 0) h102 : ((lg_cmp (fLC s96 p1 71) (Int64.ofNat ((1 : Fin 2) : Nat))) : Int32).toInt = (0 : Int32).toInt)
              have z0_ : (0 : Int32).toInt = 0 := rfl
              have hz1 : (fxT (T.1 k) && decide ((T.1 k).2.2.1 = Int64.ofNat ((1 : Fin 2) : Nat))) = true := by rw [hfx, decide_eq_true (show (T.1 k).2.2.1 = Int64.ofNat ((1 : Fin 2) : Nat) from f100.symm.trans (lc101 (by omega)))]; rfl
              refine hB _ _ _ _ _ (fun m106 hm106 => ?_)
              dsimp only [ucgo, ucwp, ucsC, uqC, uoC, ctC, rfd, KX2_join, KX2_join_0, KX2_join_20, KX2_join_27, KX2_join_31, KX2_join_32, KX2_join_40, KX2_join_49, KX2_join_55, KX2_join_57, KX2_join_66, KX2_join_75, KX2_join_81, KX2_join_83, lkC, s1C, s2C, dlC, kyC, Nat.beq, Nat.ble, rcd, rno, rsw, Nat.reduceAdd, Nat.reduceBEq, Nat.reduceDiv, List.drop, List.take, List.reverse, List.reverseAux, Int.toNat, Option.toList, List.append, List.cons_append, List.nil_append, zg68, zg70, zg71, zg91, zg92]
              refine hB _ _ _ _ _ (fun m107 hm107 => ?_)
              dsimp only [ucgo, ucwp, ucsC, uqC, uoC, ctC, rfd, KX2_join, KX2_join_0, KX2_join_20, KX2_join_27, KX2_join_31, KX2_join_32, KX2_join_40, KX2_join_49, KX2_join_55, KX2_join_57, KX2_join_66, KX2_join_75, KX2_join_81, KX2_join_83, lkC, s1C, s2C, dlC, kyC, Nat.beq, Nat.ble, rcd, rno, rsw, Nat.reduceAdd, Nat.reduceBEq, Nat.reduceDiv, List.drop, List.take, List.reverse, List.reverseAux, Int.toNat, Option.toList, List.append, List.cons_append, List.nil_append, zg68, zg70, zg71, zg91, zg92]
              intro a108 e108 ob108 fk108
              cases e108
              clear fk108 ob108
              generalize hs108 : pLC s96 (E 4) 92 (Int64.ofInt (-1)) = s108
              have hWh108 := WzC.f hWh96 hs108
              have hF108 : FrE [91, 92, 94, 217, 218, 285, 286, 287, 288, 901] σ s108 := FrE.pL2 hF96 (by decide) hs108
              have hSs_108 := SsC.fr hSs hF108 rfl
              have hPf_108 := PfC.fr hPf hF108 rfl
              have op_108 : (TwC s108 p1 (T.1 k) ∧ XzC s108 (xth z k) k p1 ∧ (¬ (xth z k).1.1 = 10 → (fIC s108 p1 67).toInt = (xth z k).2.1.2.1)) ∧ p1 < cnC s108 := by rw [hp]; exact hSs_108.2.1 k hk
              try dsimp only [Qz_join]
              have hfin : jnT (T.1 k) p2 u = (((((fLC σ (E 4) 91) &&& (fLC σ (E 4) 92)) ||| p2), u.2).1, (Int64.ofInt (-1)), ((((fLC σ (E 4) 91) &&& (fLC σ (E 4) 92)) ||| p2), u.2).2.2) := by
                unfold jnT
                rw [hz0, hz1]
                first
                  | rfl
                  | (rw [hWh.1.1, hWh.1.2.1]; rfl)
                  | rw [hWh.1.1, hWh.1.2.1]
              exact fun τ9 h9 => ⟨rfl, by rw [hfin]; exact hWh108.we h9⟩
        · have g93 := (eqI (x := (lg_cmp (fLC σ p1 71) (Int64.ofNat ((0 : Fin 2) : Nat)))) (y := 0) h93 : ((lg_cmp (fLC σ p1 71) (Int64.ofNat ((0 : Fin 2) : Nat))) : Int32).toInt = (0 : Int32).toInt)
          have z0_ : (0 : Int32).toInt = 0 := rfl
          have hz0 : (fxT (T.1 k) && decide ((T.1 k).2.2.1 = zerB)) = true := by rw [hfx, decide_eq_true (show (T.1 k).2.2.1 = zerB from f91.symm.trans (lc92 (by omega)))]; rfl
          refine hB _ _ _ _ _ (fun m109 hm109 => ?_)
          dsimp only [ucgo, ucwp, ucsC, uqC, uoC, ctC, rfd, KX2_join, KX2_join_0, KX2_join_20, KX2_join_27, KX2_join_31, KX2_join_32, KX2_join_40, KX2_join_49, KX2_join_55, KX2_join_57, KX2_join_66, KX2_join_75, KX2_join_81, KX2_join_83, lkC, s1C, s2C, dlC, kyC, Nat.beq, Nat.ble, rcd, rno, rsw, Nat.reduceAdd, Nat.reduceBEq, Nat.reduceDiv, List.drop, List.take, List.reverse, List.reverseAux, Int.toNat, Option.toList, List.append, List.cons_append, List.nil_append, zg68, zg70, zg71, zg91, zg92]
          refine hB _ _ _ _ _ (fun m110 hm110 => ?_)
          dsimp only [ucgo, ucwp, ucsC, uqC, uoC, ctC, rfd, KX2_join, KX2_join_0, KX2_join_20, KX2_join_27, KX2_join_31, KX2_join_32, KX2_join_40, KX2_join_49, KX2_join_55, KX2_join_57, KX2_join_66, KX2_join_75, KX2_join_81, KX2_join_83, lkC, s1C, s2C, dlC, kyC, Nat.beq, Nat.ble, rcd, rno, rsw, Nat.reduceAdd, Nat.reduceBEq, Nat.reduceDiv, List.drop, List.take, List.reverse, List.reverseAux, Int.toNat, Option.toList, List.append, List.cons_append, List.nil_append, zg68, zg70, zg71, zg91, zg92]
          intro a111 e111 ob111 fk111
          cases e111
          clear fk111 ob111
          generalize hs111 : pLC σ (E 4) 91 (Int64.ofInt (-1)) = s111
          have hWh111 := WzC.t hWh hs111
          have hF111 : FrE [91, 92, 94, 217, 218, 285, 286, 287, 288, 901] σ s111 := FrE.pL2 FrE.rf (by decide) hs111
          have hSs_111 := SsC.fr hSs hF111 rfl
          have hPf_111 := PfC.fr hPf hF111 rfl
          have op_111 : (TwC s111 p1 (T.1 k) ∧ XzC s111 (xth z k) k p1 ∧ (¬ (xth z k).1.1 = 10 → (fIC s111 p1 67).toInt = (xth z k).2.1.2.1)) ∧ p1 < cnC s111 := by rw [hp]; exact hSs_111.2.1 k hk
          refine ⟨fun h112 => ?_, fun h112 => ?_⟩
          · have g112 := (eqI (x := (Int32.ofInt 1)) (y := 0) h112 : ((Int32.ofInt 1) : Int32).toInt = (0 : Int32).toInt)
            have z0_ : (0 : Int32).toInt = 0 := rfl
            exfalso
            omega
          · have g112 := (neI (x := (Int32.ofInt 1)) (y := 0) h112 : ¬ ((Int32.ofInt 1) : Int32).toInt = (0 : Int32).toInt)
            have z0_ : (0 : Int32).toInt = 0 := rfl
            refine hB _ _ _ _ _ (fun m113 hm113 => ?_)
            dsimp only [ucgo, ucwp, ucsC, uqC, uoC, ctC, rfd, KX2_join, KX2_join_0, KX2_join_20, KX2_join_27, KX2_join_31, KX2_join_32, KX2_join_40, KX2_join_49, KX2_join_55, KX2_join_57, KX2_join_66, KX2_join_75, KX2_join_81, KX2_join_83, lkC, s1C, s2C, dlC, kyC, Nat.beq, Nat.ble, rcd, rno, rsw, Nat.reduceAdd, Nat.reduceBEq, Nat.reduceDiv, List.drop, List.take, List.reverse, List.reverseAux, Int.toNat, Option.toList, List.append, List.cons_append, List.nil_append, zg68, zg70, zg71, zg91, zg92]
            intro a114 e114 ob114
            cases e114
            have f115 : (fLC s111 p1 71) = (T.1 k).2.2.1 := op_111.1.1.2.2
            have lc116 : (lg_cmp (fLC s111 p1 71) (Int64.ofNat ((1 : Fin 2) : Nat))).toInt = 0 → (fLC s111 p1 71) = (Int64.ofNat ((1 : Fin 2) : Nat)) := lcmpC
            have ld116 : (fLC s111 p1 71) = (Int64.ofNat ((1 : Fin 2) : Nat)) → (lg_cmp (fLC s111 p1 71) (Int64.ofNat ((1 : Fin 2) : Nat))).toInt = 0 := fun e => by rw [e]; exact lcmp0
            refine ⟨fun h117 => ?_, fun h117 => ?_⟩
            · have g117 := (neI (x := (lg_cmp (fLC s111 p1 71) (Int64.ofNat ((1 : Fin 2) : Nat)))) (y := 0) h117 : ¬ ((lg_cmp (fLC s111 p1 71) (Int64.ofNat ((1 : Fin 2) : Nat))) : Int32).toInt = (0 : Int32).toInt)
              have z0_ : (0 : Int32).toInt = 0 := rfl
              have hz1 : (fxT (T.1 k) && decide ((T.1 k).2.2.1 = Int64.ofNat ((1 : Fin 2) : Nat))) = false := by rw [decide_eq_false (show ¬ (T.1 k).2.2.1 = Int64.ofNat ((1 : Fin 2) : Nat) from fun q9 => absurd (ld116 (f115.trans q9)) (by omega)), Bool.and_false]
              refine hB _ _ _ _ _ (fun m118 hm118 => ?_)
              dsimp only [ucgo, ucwp, ucsC, uqC, uoC, ctC, rfd, KX2_join, KX2_join_0, KX2_join_20, KX2_join_27, KX2_join_31, KX2_join_32, KX2_join_40, KX2_join_49, KX2_join_55, KX2_join_57, KX2_join_66, KX2_join_75, KX2_join_81, KX2_join_83, lkC, s1C, s2C, dlC, kyC, Nat.beq, Nat.ble, rcd, rno, rsw, Nat.reduceAdd, Nat.reduceBEq, Nat.reduceDiv, List.drop, List.take, List.reverse, List.reverseAux, Int.toNat, Option.toList, List.append, List.cons_append, List.nil_append, zg68, zg70, zg71, zg91, zg92]
              refine hB _ _ _ _ _ (fun m119 hm119 => ?_)
              dsimp only [ucgo, ucwp, ucsC, uqC, uoC, ctC, rfd, KX2_join, KX2_join_0, KX2_join_20, KX2_join_27, KX2_join_31, KX2_join_32, KX2_join_40, KX2_join_49, KX2_join_55, KX2_join_57, KX2_join_66, KX2_join_75, KX2_join_81, KX2_join_83, lkC, s1C, s2C, dlC, kyC, Nat.beq, Nat.ble, rcd, rno, rsw, Nat.reduceAdd, Nat.reduceBEq, Nat.reduceDiv, List.drop, List.take, List.reverse, List.reverseAux, Int.toNat, Option.toList, List.append, List.cons_append, List.nil_append, zg68, zg70, zg71, zg91, zg92]
              intro a120 e120 ob120 fk120
              cases e120
              clear fk120 ob120
              generalize hs120 : pLC s111 (E 4) 92 (((fLC σ (E 4) 91) &&& (fLC σ (E 4) 92)) ||| p2) = s120
              have hWh120 := WzC.f hWh111 hs120
              have hF120 : FrE [91, 92, 94, 217, 218, 285, 286, 287, 288, 901] σ s120 := FrE.pL2 hF111 (by decide) hs120
              have hSs_120 := SsC.fr hSs hF120 rfl
              have hPf_120 := PfC.fr hPf hF120 rfl
              have op_120 : (TwC s120 p1 (T.1 k) ∧ XzC s120 (xth z k) k p1 ∧ (¬ (xth z k).1.1 = 10 → (fIC s120 p1 67).toInt = (xth z k).2.1.2.1)) ∧ p1 < cnC s120 := by rw [hp]; exact hSs_120.2.1 k hk
              try dsimp only [Qz_join]
              have hfin : jnT (T.1 k) p2 u = (((Int64.ofInt (-1)), u.2).1, (((fLC σ (E 4) 91) &&& (fLC σ (E 4) 92)) ||| p2), ((Int64.ofInt (-1)), u.2).2.2) := by
                unfold jnT
                rw [hz0, hz1]
                first
                  | rfl
                  | (rw [hWh.1.1, hWh.1.2.1]; rfl)
                  | rw [hWh.1.1, hWh.1.2.1]
              exact fun τ9 h9 => ⟨rfl, by rw [hfin]; exact hWh120.we h9⟩
            · have g117 := (eqI (x := (lg_cmp (fLC s111 p1 71) (Int64.ofNat ((1 : Fin 2) : Nat)))) (y := 0) h117 : ((lg_cmp (fLC s111 p1 71) (Int64.ofNat ((1 : Fin 2) : Nat))) : Int32).toInt = (0 : Int32).toInt)
              have z0_ : (0 : Int32).toInt = 0 := rfl
              have hz1 : (fxT (T.1 k) && decide ((T.1 k).2.2.1 = Int64.ofNat ((1 : Fin 2) : Nat))) = true := by rw [hfx, decide_eq_true (show (T.1 k).2.2.1 = Int64.ofNat ((1 : Fin 2) : Nat) from f115.symm.trans (lc116 (by omega)))]; rfl
              refine hB _ _ _ _ _ (fun m121 hm121 => ?_)
              dsimp only [ucgo, ucwp, ucsC, uqC, uoC, ctC, rfd, KX2_join, KX2_join_0, KX2_join_20, KX2_join_27, KX2_join_31, KX2_join_32, KX2_join_40, KX2_join_49, KX2_join_55, KX2_join_57, KX2_join_66, KX2_join_75, KX2_join_81, KX2_join_83, lkC, s1C, s2C, dlC, kyC, Nat.beq, Nat.ble, rcd, rno, rsw, Nat.reduceAdd, Nat.reduceBEq, Nat.reduceDiv, List.drop, List.take, List.reverse, List.reverseAux, Int.toNat, Option.toList, List.append, List.cons_append, List.nil_append, zg68, zg70, zg71, zg91, zg92]
              refine hB _ _ _ _ _ (fun m122 hm122 => ?_)
              dsimp only [ucgo, ucwp, ucsC, uqC, uoC, ctC, rfd, KX2_join, KX2_join_0, KX2_join_20, KX2_join_27, KX2_join_31, KX2_join_32, KX2_join_40, KX2_join_49, KX2_join_55, KX2_join_57, KX2_join_66, KX2_join_75, KX2_join_81, KX2_join_83, lkC, s1C, s2C, dlC, kyC, Nat.beq, Nat.ble, rcd, rno, rsw, Nat.reduceAdd, Nat.reduceBEq, Nat.reduceDiv, List.drop, List.take, List.reverse, List.reverseAux, Int.toNat, Option.toList, List.append, List.cons_append, List.nil_append, zg68, zg70, zg71, zg91, zg92]
              intro a123 e123 ob123 fk123
              cases e123
              clear fk123 ob123
              generalize hs123 : pLC s111 (E 4) 92 (Int64.ofInt (-1)) = s123
              have hWh123 := WzC.f hWh111 hs123
              have hF123 : FrE [91, 92, 94, 217, 218, 285, 286, 287, 288, 901] σ s123 := FrE.pL2 hF111 (by decide) hs123
              have hSs_123 := SsC.fr hSs hF123 rfl
              have hPf_123 := PfC.fr hPf hF123 rfl
              have op_123 : (TwC s123 p1 (T.1 k) ∧ XzC s123 (xth z k) k p1 ∧ (¬ (xth z k).1.1 = 10 → (fIC s123 p1 67).toInt = (xth z k).2.1.2.1)) ∧ p1 < cnC s123 := by rw [hp]; exact hSs_123.2.1 k hk
              try dsimp only [Qz_join]
              have hfin : jnT (T.1 k) p2 u = (((Int64.ofInt (-1)), u.2).1, (Int64.ofInt (-1)), ((Int64.ofInt (-1)), u.2).2.2) := by
                unfold jnT
                rw [hz0, hz1]
                first
                  | rfl
                  | (rw [hWh.1.1, hWh.1.2.1]; rfl)
                  | rw [hWh.1.1, hWh.1.2.1]
              exact fun τ9 h9 => ⟨rfl, by rw [hfin]; exact hWh123.we h9⟩
theorem wz_join : ∀ (L : Nat) (As : List AvC) (σ : CsC) (w : Option AvC) (τ : CsC), EvF L 45 As σ w τ → Uz_join As σ w τ := by
  intro L
  cases L with
  | zero => exact fun _ _ _ _ h => h.elim
  | succ L => exact fun As σ w τ h y hy => EvF.us (cs := []) (pz_join y) rfl (fun _ h => absurd h List.not_mem_nil) h hy
abbrev Pz_fork : ((Int → Int) × (Nat → Nat) × (Nat → Nat) × (Nat → Nat) × (Nat → Nat) × ZS × TbT × MfT × Nat × WzS) → CpC := fun y As σ => match y with
  | (N, E, A, B, V, z, T, ms, nm, u) => ∃ (p1 : Int64) (p2 : Int64), As = [.inr (.inr (some (E 4))), .inr (.inl p1), .inr (.inl p2)] ∧ (SsC E A B σ z T ms nm) ∧ (PfC E σ) ∧ (WzC E σ u)
abbrev Qz_fork : ((Int → Int) × (Nat → Nat) × (Nat → Nat) × (Nat → Nat) × (Nat → Nat) × ZS × TbT × MfT × Nat × WzS) → CqC := fun y As σ w τ => match y, As with
  | (N, E, A, B, V, z, T, ms, nm, u), [_, .inr (.inl p1), .inr (.inl p2)] => w = none ∧ WzC E τ (fkW p1 p2 u)
  | _, _ => True
abbrev Uz_fork : CqC := fun As σ w τ => ∀ y, Pz_fork y As σ → Qz_fork y As σ w τ
set_option maxHeartbeats 4000000 in
theorem pz_fork (y : (Int → Int) × (Nat → Nat) × (Nat → Nat) × (Nat → Nat) × (Nat → Nat) × ZS × TbT × MfT × Nat × WzS) : PbC KX2_fork [(46, TrP, EqC 46)] [(46, Uz_toAside)] (fun As σ => Pz_fork y As σ ∧ cnC σ ≤ 1000000 ∧ ∃ w τ, uqC quL 41 As σ w τ) (Qz_fork y) := by
  obtain ⟨N, E, A, B, V, z, T, ms, nm, u⟩ := y
  rintro As σ ⟨⟨p1, p2, rfl, hSs, hPf, hWh⟩, hcn, _, _, hQ⟩ K hB hW n_
  change K n_ 0 [(0, .inr (.inr (some (E 4)))), (1, .inr (.inl p1)), (3, .inr (.inl p2))] [] σ
  refine hB _ _ _ _ _ (fun m51 hm51 => ?_)
  dsimp only [ucgo, ucwp, ucsC, uqC, uoC, ctC, rfd, KX2_fork, KX2_fork_0, lkC, s1C, s2C, dlC, kyC, Nat.beq, Nat.ble, rcd, rno, rsw, Nat.reduceAdd, Nat.reduceBEq, Nat.reduceDiv, List.drop, List.take, List.reverse, List.reverseAux, Int.toNat, Option.toList, List.append, List.cons_append, List.nil_append]
  intro w52 τ52 o52 q52
  obtain ⟨rfl, hWh52⟩ := q52 (N, E, A, B, V, z, u) ⟨_, rfl, hWh⟩
  have hF52 : FrE [91, 92, 94, 217, 218, 285, 286, 287, 288, 901] σ τ52 := FrE.mo o52.2 rfl
  have hSs_52 := SsC.fr hSs hF52 rfl
  have hPf_52 := PfC.fr hPf hF52 rfl
  try dsimp only [Option.toList, List.cons_append, List.nil_append, s1C, s2C, dlC, kyC, Nat.beq, lkC, rcd, rno, rsw]
  intro a53 e53 ob53 fk53
  cases e53
  clear fk53 ob53
  generalize hs53 : pLC τ52 (E 4) 91 p2 = s53
  have hWh53 := WzC.t hWh52 hs53
  have hF53 : FrE [91, 92, 94, 217, 218, 285, 286, 287, 288, 901] σ s53 := FrE.pL2 hF52 (by decide) hs53
  have hSs_53 := SsC.fr hSs hF53 rfl
  have hPf_53 := PfC.fr hPf hF53 rfl
  intro a54 e54 ob54 fk54
  cases e54
  clear fk54 ob54
  generalize hs54 : pLC s53 (E 4) 92 p2 = s54
  have hWh54 := WzC.f hWh53 hs54
  have hF54 : FrE [91, 92, 94, 217, 218, 285, 286, 287, 288, 901] σ s54 := FrE.pL2 hF53 (by decide) hs54
  have hSs_54 := SsC.fr hSs hF54 rfl
  have hPf_54 := PfC.fr hPf hF54 rfl
  try dsimp only [Qz_fork]
  have hfin : fkW p1 p2 u = ((p2, (toA p1 u).2).1, p2, (p2, (toA p1 u).2).2.2) := by
    rfl
  exact fun τ9 h9 => ⟨rfl, by rw [hfin]; exact hWh54.we h9⟩
theorem wz_fork : ∀ (L : Nat) (As : List AvC) (σ : CsC) (w : Option AvC) (τ : CsC), EvF L 41 As σ w τ → Uz_fork As σ w τ := by
  intro L
  cases L with
  | zero => exact fun _ _ _ _ h => h.elim
  | succ L => exact fun As σ w τ h y hy => EvF.us (cs := [46]) (pz_fork y) rfl (List.forall_mem_cons.2 ⟨wz_toAside L, fun _ h => absurd h List.not_mem_nil⟩) h hy
abbrev Pz_passElse : ((Int → Int) × (Nat → Nat) × (Nat → Nat) × (Nat → Nat) × (Nat → Nat) × ZS × TbT × MfT × Nat × WzS) → CpC := fun y As σ => match y with
  | (N, E, A, B, V, z, T, ms, nm, u) => As = [.inr (.inr (some (E 4)))] ∧ (SsC E A B σ z T ms nm) ∧ (PfC E σ) ∧ (WzC E σ u)
abbrev Qz_passElse : ((Int → Int) × (Nat → Nat) × (Nat → Nat) × (Nat → Nat) × (Nat → Nat) × ZS × TbT × MfT × Nat × WzS) → CqC := fun y As σ w τ => match y, As with
  | (N, E, A, B, V, z, T, ms, nm, u), [_] => w = none ∧ WzC E τ (elW u)
  | _, _ => True
abbrev Uz_passElse : CqC := fun As σ w τ => ∀ y, Pz_passElse y As σ → Qz_passElse y As σ w τ
set_option maxHeartbeats 4000000 in
theorem pz_passElse (y : (Int → Int) × (Nat → Nat) × (Nat → Nat) × (Nat → Nat) × (Nat → Nat) × ZS × TbT × MfT × Nat × WzS) : PbC KX2_passElse [(47, TrP, EqC 47), (46, TrP, EqC 46)] [(47, Uz_fromAside), (46, Uz_toAside)] (fun As σ => Pz_passElse y As σ ∧ cnC σ ≤ 1000000 ∧ ∃ w τ, uqC quL 42 As σ w τ) (Qz_passElse y) := by
  obtain ⟨N, E, A, B, V, z, T, ms, nm, u⟩ := y
  rintro As σ ⟨⟨rfl, hSs, hPf, hWh⟩, hcn, _, _, hQ⟩ K hB hW n_
  change K n_ 0 [(0, .inr (.inr (some (E 4))))] [] σ
  refine hB _ _ _ _ _ (fun m51 hm51 => ?_)
  dsimp only [ucgo, ucwp, ucsC, uqC, uoC, ctC, rfd, KX2_passElse, KX2_passElse_0, lkC, s1C, s2C, dlC, kyC, Nat.beq, Nat.ble, rcd, rno, rsw, Nat.reduceAdd, Nat.reduceBEq, Nat.reduceDiv, List.drop, List.take, List.reverse, List.reverseAux, Int.toNat, Option.toList, List.append, List.cons_append, List.nil_append, zg91, zg92]
  intro w52 τ52 o52 q52
  obtain ⟨r52, rfl, hr52, hWh52⟩ := q52 (N, E, A, B, V, z, u) ⟨rfl, hWh⟩
  have hF52 : FrE [91, 92, 94, 217, 218, 285, 286, 287, 288, 901] σ τ52 := FrE.mo o52.2 rfl
  have hSs_52 := SsC.fr hSs hF52 rfl
  have hPf_52 := PfC.fr hPf hF52 rfl
  try dsimp only [Option.toList, List.cons_append, List.nil_append, s1C, s2C, dlC, kyC, Nat.beq, lkC, rcd, rno, rsw]
  intro a53 e53 ob53
  cases e53
  have f54 : (fLC τ52 (E 4) 91) = ((frA u).2).1 := hWh52.1.1
  intro w55 τ55 o55 q55
  obtain ⟨rfl, hWh55⟩ := q55 (N, E, A, B, V, z, (frA u).2) ⟨_, rfl, hWh52⟩
  have hF55 : FrE [91, 92, 94, 217, 218, 285, 286, 287, 288, 901] σ τ55 := hF52.tr (o55.2.mo rfl)
  have hSs_55 := SsC.fr hSs hF55 rfl
  have hPf_55 := PfC.fr hPf hF55 rfl
  try dsimp only [Option.toList, List.cons_append, List.nil_append, s1C, s2C, dlC, kyC, Nat.beq, lkC, rcd, rno, rsw]
  intro a56 e56 ob56
  cases e56
  have f57 : (fLC τ55 (E 4) 92) = (toA (fLC τ52 (E 4) 91) ((frA u).2)).2.1 := hWh55.1.2.1
  intro w58 τ58 o58 q58
  obtain ⟨rfl, hWh58⟩ := q58 (N, E, A, B, V, z, toA (fLC τ52 (E 4) 91) ((frA u).2)) ⟨_, rfl, hWh55⟩
  have hF58 : FrE [91, 92, 94, 217, 218, 285, 286, 287, 288, 901] σ τ58 := hF55.tr (o58.2.mo rfl)
  have hSs_58 := SsC.fr hSs hF58 rfl
  have hPf_58 := PfC.fr hPf hF58 rfl
  try dsimp only [Option.toList, List.cons_append, List.nil_append, s1C, s2C, dlC, kyC, Nat.beq, lkC, rcd, rno, rsw]
  intro a59 e59 ob59 fk59
  cases e59
  clear fk59 ob59
  generalize hs59 : pLC τ58 (E 4) 91 r52 = s59
  have hWh59 := WzC.t hWh58 hs59
  have hF59 : FrE [91, 92, 94, 217, 218, 285, 286, 287, 288, 901] σ s59 := FrE.pL2 hF58 (by decide) hs59
  have hSs_59 := SsC.fr hSs hF59 rfl
  have hPf_59 := PfC.fr hPf hF59 rfl
  intro a60 e60 ob60 fk60
  cases e60
  clear fk60 ob60
  generalize hs60 : pLC s59 (E 4) 92 r52 = s60
  have hWh60 := WzC.f hWh59 hs60
  have hF60 : FrE [91, 92, 94, 217, 218, 285, 286, 287, 288, 901] σ s60 := FrE.pL2 hF59 (by decide) hs60
  have hSs_60 := SsC.fr hSs hF60 rfl
  have hPf_60 := PfC.fr hPf hF60 rfl
  try dsimp only [Qz_passElse]
  have hfin : elW u = ((r52, (toA (fLC τ55 (E 4) 92) (toA (fLC τ52 (E 4) 91) ((frA u).2))).2).1, r52, (r52, (toA (fLC τ55 (E 4) 92) (toA (fLC τ52 (E 4) 91) ((frA u).2))).2).2.2) := by
    subst hr52
    unfold elW beW
    rw [f57, f54, toA_f]
  exact fun τ9 h9 => ⟨rfl, by rw [hfin]; exact hWh60.we h9⟩
theorem wz_passElse : ∀ (L : Nat) (As : List AvC) (σ : CsC) (w : Option AvC) (τ : CsC), EvF L 42 As σ w τ → Uz_passElse As σ w τ := by
  intro L
  cases L with
  | zero => exact fun _ _ _ _ h => h.elim
  | succ L => exact fun As σ w τ h y hy => EvF.us (cs := [47, 46]) (pz_passElse y) rfl (List.forall_mem_cons.2 ⟨wz_fromAside L, List.forall_mem_cons.2 ⟨wz_toAside L, fun _ h => absurd h List.not_mem_nil⟩⟩) h hy
abbrev Pz_passChain : ((Int → Int) × (Nat → Nat) × (Nat → Nat) × (Nat → Nat) × (Nat → Nat) × ZS × TbT × MfT × Nat × WzS × Nat) → CpC := fun y As σ => match y with
  | (N, E, A, B, V, z, T, ms, nm, u, k) => ∃ (p1 : Nat), As = [.inr (.inr (some (E 4))), .inr (.inr (some p1))] ∧ (SsC E A B σ z T ms nm) ∧ (PfC E σ) ∧ (WzC E σ u) ∧ (k < xnM z) ∧ (p1 = A k)
abbrev Qz_passChain : ((Int → Int) × (Nat → Nat) × (Nat → Nat) × (Nat → Nat) × (Nat → Nat) × ZS × TbT × MfT × Nat × WzS × Nat) → CqC := fun y As σ w τ => match y, As with
  | (N, E, A, B, V, z, T, ms, nm, u, k), [_, .inr (.inr (some p1))] => w = none ∧ WzC E τ (chW (T.1 k) (xth z k).1.2.1 u)
  | _, _ => True
abbrev Uz_passChain : CqC := fun As σ w τ => ∀ y, Pz_passChain y As σ → Qz_passChain y As σ w τ
set_option maxHeartbeats 4000000 in
theorem pz_passChain (y : (Int → Int) × (Nat → Nat) × (Nat → Nat) × (Nat → Nat) × (Nat → Nat) × ZS × TbT × MfT × Nat × WzS × Nat) : PbC KX2_passChain [(45, TrP, EqC 45), (47, TrP, EqC 47)] [(45, Uz_join), (47, Uz_fromAside)] (fun As σ => Pz_passChain y As σ ∧ cnC σ ≤ 1000000 ∧ ∃ w τ, uqC quL 43 As σ w τ) (Qz_passChain y) := by
  obtain ⟨N, E, A, B, V, z, T, ms, nm, u, k⟩ := y
  rintro As σ ⟨⟨p1, rfl, hSs, hPf, hWh, hk, hp⟩, hcn, _, _, hQ⟩ K hB hW n_
  have op : (TwC σ p1 (T.1 k) ∧ XzC σ (xth z k) k p1 ∧ (¬ (xth z k).1.1 = 10 → (fIC σ p1 67).toInt = (xth z k).2.1.2.1)) ∧ p1 < cnC σ := by rw [hp]; exact hSs.2.1 k hk
  change K n_ 0 [(0, .inr (.inr (some (E 4)))), (1, .inr (.inr (some p1)))] [] σ
  refine hB _ _ _ _ _ (fun m51 hm51 => ?_)
  dsimp only [ucgo, ucwp, ucsC, uqC, uoC, ctC, rfd, KX2_passChain, KX2_passChain_0, KX2_passChain_9, KX2_passChain_25, KX2_passChain_34, KX2_passChain_50, KX2_passChain_56, lkC, s1C, s2C, dlC, kyC, Nat.beq, Nat.ble, rcd, rno, rsw, Nat.reduceAdd, Nat.reduceBEq, Nat.reduceDiv, List.drop, List.take, List.reverse, List.reverseAux, Int.toNat, Option.toList, List.append, List.cons_append, List.nil_append, zg61, zg91, zg92]
  intro a52 e52 ob52
  cases e52
  have f53 : (fIC σ p1 61).toInt = (xth z k).1.2.1 := op.1.2.1.2.1
  have c54 : (Int32.ofInt 21).toInt = 21 := by decide
  refine ⟨fun h55 => ?_, fun h55 => ?_⟩
  · have g55 := (neI (x := (fIC σ p1 61)) (y := (Int32.ofInt 21)) h55 : ¬ ((fIC σ p1 61) : Int32).toInt = ((Int32.ofInt 21) : Int32).toInt)
    refine hB _ _ _ _ _ (fun m56 hm56 => ?_)
    dsimp only [ucgo, ucwp, ucsC, uqC, uoC, ctC, rfd, KX2_passChain, KX2_passChain_0, KX2_passChain_9, KX2_passChain_25, KX2_passChain_34, KX2_passChain_50, KX2_passChain_56, lkC, s1C, s2C, dlC, kyC, Nat.beq, Nat.ble, rcd, rno, rsw, Nat.reduceAdd, Nat.reduceBEq, Nat.reduceDiv, List.drop, List.take, List.reverse, List.reverseAux, Int.toNat, Option.toList, List.append, List.cons_append, List.nil_append, zg61, zg91, zg92]
    intro a57 e57 ob57
    cases e57
    have f58 : (fIC σ p1 61).toInt = (xth z k).1.2.1 := op.1.2.1.2.1
    have c59 : (Int32.ofInt 20).toInt = 20 := by decide
    refine ⟨fun h60 => ?_, fun h60 => ?_⟩
    · have g60 := (neI (x := (fIC σ p1 61)) (y := (Int32.ofInt 20)) h60 : ¬ ((fIC σ p1 61) : Int32).toInt = ((Int32.ofInt 20) : Int32).toInt)
      refine hB _ _ _ _ _ (fun m61 hm61 => ?_)
      dsimp only [ucgo, ucwp, ucsC, uqC, uoC, ctC, rfd, KX2_passChain, KX2_passChain_0, KX2_passChain_9, KX2_passChain_25, KX2_passChain_34, KX2_passChain_50, KX2_passChain_56, lkC, s1C, s2C, dlC, kyC, Nat.beq, Nat.ble, rcd, rno, rsw, Nat.reduceAdd, Nat.reduceBEq, Nat.reduceDiv, List.drop, List.take, List.reverse, List.reverseAux, Int.toNat, Option.toList, List.append, List.cons_append, List.nil_append, zg61, zg91, zg92]
      intro w62 τ62 o62 q62
      obtain ⟨rfl, hWh62⟩ := q62 (N, E, A, B, V, z, T, ms, nm, u, k) ⟨_, _, rfl, hSs, hPf, hWh, hk, hp⟩
      have hF62 : FrE [91, 92, 94, 217, 218, 285, 286, 287, 288, 901] σ τ62 := FrE.mo o62.2 rfl
      have hSs_62 := SsC.fr hSs hF62 rfl
      have hPf_62 := PfC.fr hPf hF62 rfl
      have op_62 : (TwC τ62 p1 (T.1 k) ∧ XzC τ62 (xth z k) k p1 ∧ (¬ (xth z k).1.1 = 10 → (fIC τ62 p1 67).toInt = (xth z k).2.1.2.1)) ∧ p1 < cnC τ62 := by rw [hp]; exact hSs_62.2.1 k hk
      try dsimp only [Option.toList, List.cons_append, List.nil_append, s1C, s2C, dlC, kyC, Nat.beq, lkC, rcd, rno, rsw]
      refine hB _ _ _ _ _ (fun m63 hm63 => ?_)
      dsimp only [ucgo, ucwp, ucsC, uqC, uoC, ctC, rfd, KX2_passChain, KX2_passChain_0, KX2_passChain_9, KX2_passChain_25, KX2_passChain_34, KX2_passChain_50, KX2_passChain_56, lkC, s1C, s2C, dlC, kyC, Nat.beq, Nat.ble, rcd, rno, rsw, Nat.reduceAdd, Nat.reduceBEq, Nat.reduceDiv, List.drop, List.take, List.reverse, List.reverseAux, Int.toNat, Option.toList, List.append, List.cons_append, List.nil_append, zg61, zg91, zg92]
      try dsimp only [Qz_passChain]
      have hfin : chW (T.1 k) (xth z k).1.2.1 u = jnT (T.1 k) (Int64.ofNat ((0 : Fin 2) : Nat)) u := by
        unfold chW
        rw [if_neg (by omega), if_neg (by omega)]
        rfl
      exact fun τ9 h9 => ⟨rfl, by rw [hfin]; exact hWh62.we h9⟩
    · have g60 := (eqI (x := (fIC σ p1 61)) (y := (Int32.ofInt 20)) h60 : ((fIC σ p1 61) : Int32).toInt = ((Int32.ofInt 20) : Int32).toInt)
      refine hB _ _ _ _ _ (fun m64 hm64 => ?_)
      dsimp only [ucgo, ucwp, ucsC, uqC, uoC, ctC, rfd, KX2_passChain, KX2_passChain_0, KX2_passChain_9, KX2_passChain_25, KX2_passChain_34, KX2_passChain_50, KX2_passChain_56, lkC, s1C, s2C, dlC, kyC, Nat.beq, Nat.ble, rcd, rno, rsw, Nat.reduceAdd, Nat.reduceBEq, Nat.reduceDiv, List.drop, List.take, List.reverse, List.reverseAux, Int.toNat, Option.toList, List.append, List.cons_append, List.nil_append, zg61, zg91, zg92]
      intro a65 e65 ob65
      cases e65
      have f66 : (fLC σ (E 4) 91) = u.1 := hWh.1.1
      intro w67 τ67 o67 q67
      obtain ⟨r67, rfl, hr67, hWh67⟩ := q67 (N, E, A, B, V, z, u) ⟨rfl, hWh⟩
      have hF67 : FrE [91, 92, 94, 217, 218, 285, 286, 287, 288, 901] σ τ67 := FrE.mo o67.2 rfl
      have hSs_67 := SsC.fr hSs hF67 rfl
      have hPf_67 := PfC.fr hPf hF67 rfl
      have op_67 : (TwC τ67 p1 (T.1 k) ∧ XzC τ67 (xth z k) k p1 ∧ (¬ (xth z k).1.1 = 10 → (fIC τ67 p1 67).toInt = (xth z k).2.1.2.1)) ∧ p1 < cnC τ67 := by rw [hp]; exact hSs_67.2.1 k hk
      try dsimp only [Option.toList, List.cons_append, List.nil_append, s1C, s2C, dlC, kyC, Nat.beq, lkC, rcd, rno, rsw]
      intro a68 e68 ob68 fk68
      cases e68
      clear fk68 ob68
      generalize hs68 : pLC τ67 (E 4) 91 ((fLC σ (E 4) 91) &&& r67) = s68
      have hWh68 := WzC.t hWh67 hs68
      have hF68 : FrE [91, 92, 94, 217, 218, 285, 286, 287, 288, 901] σ s68 := FrE.pL2 hF67 (by decide) hs68
      have hSs_68 := SsC.fr hSs hF68 rfl
      have hPf_68 := PfC.fr hPf hF68 rfl
      have op_68 : (TwC s68 p1 (T.1 k) ∧ XzC s68 (xth z k) k p1 ∧ (¬ (xth z k).1.1 = 10 → (fIC s68 p1 67).toInt = (xth z k).2.1.2.1)) ∧ p1 < cnC s68 := by rw [hp]; exact hSs_68.2.1 k hk
      refine hB _ _ _ _ _ (fun m69 hm69 => ?_)
      dsimp only [ucgo, ucwp, ucsC, uqC, uoC, ctC, rfd, KX2_passChain, KX2_passChain_0, KX2_passChain_9, KX2_passChain_25, KX2_passChain_34, KX2_passChain_50, KX2_passChain_56, lkC, s1C, s2C, dlC, kyC, Nat.beq, Nat.ble, rcd, rno, rsw, Nat.reduceAdd, Nat.reduceBEq, Nat.reduceDiv, List.drop, List.take, List.reverse, List.reverseAux, Int.toNat, Option.toList, List.append, List.cons_append, List.nil_append, zg61, zg91, zg92]
      try dsimp only [Qz_passChain]
      have hfin : chW (T.1 k) (xth z k).1.2.1 u = (((fLC σ (E 4) 91) &&& r67), ((frA u).2).2) := by
        subst hr67
        unfold chW
        rw [if_neg (by omega), if_pos (by omega)]
        unfold andT
        simp only [f66, frA_t]
      exact fun τ9 h9 => ⟨rfl, by rw [hfin]; exact hWh68.we h9⟩
  · have g55 := (eqI (x := (fIC σ p1 61)) (y := (Int32.ofInt 21)) h55 : ((fIC σ p1 61) : Int32).toInt = ((Int32.ofInt 21) : Int32).toInt)
    refine hB _ _ _ _ _ (fun m70 hm70 => ?_)
    dsimp only [ucgo, ucwp, ucsC, uqC, uoC, ctC, rfd, KX2_passChain, KX2_passChain_0, KX2_passChain_9, KX2_passChain_25, KX2_passChain_34, KX2_passChain_50, KX2_passChain_56, lkC, s1C, s2C, dlC, kyC, Nat.beq, Nat.ble, rcd, rno, rsw, Nat.reduceAdd, Nat.reduceBEq, Nat.reduceDiv, List.drop, List.take, List.reverse, List.reverseAux, Int.toNat, Option.toList, List.append, List.cons_append, List.nil_append, zg61, zg91, zg92]
    intro a71 e71 ob71
    cases e71
    have f72 : (fLC σ (E 4) 92) = u.2.1 := hWh.1.2.1
    intro w73 τ73 o73 q73
    obtain ⟨r73, rfl, hr73, hWh73⟩ := q73 (N, E, A, B, V, z, u) ⟨rfl, hWh⟩
    have hF73 : FrE [91, 92, 94, 217, 218, 285, 286, 287, 288, 901] σ τ73 := FrE.mo o73.2 rfl
    have hSs_73 := SsC.fr hSs hF73 rfl
    have hPf_73 := PfC.fr hPf hF73 rfl
    have op_73 : (TwC τ73 p1 (T.1 k) ∧ XzC τ73 (xth z k) k p1 ∧ (¬ (xth z k).1.1 = 10 → (fIC τ73 p1 67).toInt = (xth z k).2.1.2.1)) ∧ p1 < cnC τ73 := by rw [hp]; exact hSs_73.2.1 k hk
    try dsimp only [Option.toList, List.cons_append, List.nil_append, s1C, s2C, dlC, kyC, Nat.beq, lkC, rcd, rno, rsw]
    intro a74 e74 ob74 fk74
    cases e74
    clear fk74 ob74
    generalize hs74 : pLC τ73 (E 4) 92 ((fLC σ (E 4) 92) &&& r73) = s74
    have hWh74 := WzC.f hWh73 hs74
    have hF74 : FrE [91, 92, 94, 217, 218, 285, 286, 287, 288, 901] σ s74 := FrE.pL2 hF73 (by decide) hs74
    have hSs_74 := SsC.fr hSs hF74 rfl
    have hPf_74 := PfC.fr hPf hF74 rfl
    have op_74 : (TwC s74 p1 (T.1 k) ∧ XzC s74 (xth z k) k p1 ∧ (¬ (xth z k).1.1 = 10 → (fIC s74 p1 67).toInt = (xth z k).2.1.2.1)) ∧ p1 < cnC s74 := by rw [hp]; exact hSs_74.2.1 k hk
    refine hB _ _ _ _ _ (fun m75 hm75 => ?_)
    dsimp only [ucgo, ucwp, ucsC, uqC, uoC, ctC, rfd, KX2_passChain, KX2_passChain_0, KX2_passChain_9, KX2_passChain_25, KX2_passChain_34, KX2_passChain_50, KX2_passChain_56, lkC, s1C, s2C, dlC, kyC, Nat.beq, Nat.ble, rcd, rno, rsw, Nat.reduceAdd, Nat.reduceBEq, Nat.reduceDiv, List.drop, List.take, List.reverse, List.reverseAux, Int.toNat, Option.toList, List.append, List.cons_append, List.nil_append, zg61, zg91, zg92]
    try dsimp only [Qz_passChain]
    have hfin : chW (T.1 k) (xth z k).1.2.1 u = (((frA u).2).1, ((fLC σ (E 4) 92) &&& r73), ((frA u).2).2.2) := by
      subst hr73
      unfold chW
      rw [if_pos (by omega)]
      unfold andF
      simp only [f72, frA_f]
    exact fun τ9 h9 => ⟨rfl, by rw [hfin]; exact hWh74.we h9⟩
theorem wz_passChain : ∀ (L : Nat) (As : List AvC) (σ : CsC) (w : Option AvC) (τ : CsC), EvF L 43 As σ w τ → Uz_passChain As σ w τ := by
  intro L
  cases L with
  | zero => exact fun _ _ _ _ h => h.elim
  | succ L => exact fun As σ w τ h y hy => EvF.us (cs := [45, 47]) (pz_passChain y) rfl (List.forall_mem_cons.2 ⟨wz_join L, List.forall_mem_cons.2 ⟨wz_fromAside L, fun _ h => absurd h List.not_mem_nil⟩⟩) h hy
abbrev Pz_takeValue : ((Int → Int) × (Nat → Nat) × (Nat → Nat) × (Nat → Nat) × (Nat → Nat) × ZS × TbT × MfT × Nat × WzS × Nat) → CpC := fun y As σ => match y with
  | (N, E, A, B, V, z, T, ms, nm, u, k) => ∃ (p1 : Nat), As = [.inr (.inr (some (E 4))), .inr (.inr (some p1))] ∧ (SsC E A B σ z T ms nm) ∧ (PfC E σ) ∧ (WzC E σ u) ∧ (k < xnM z) ∧ (p1 = A k) ∧ ((xth z k).2.1.2.1 < 64 ∧ ¬ (xth z k).1.1 = 10)
abbrev Qz_takeValue : ((Int → Int) × (Nat → Nat) × (Nat → Nat) × (Nat → Nat) × (Nat → Nat) × ZS × TbT × MfT × Nat × WzS × Nat) → CqC := fun y As σ w τ => match y, As with
  | (N, E, A, B, V, z, T, ms, nm, u, k), [_, .inr (.inr (some p1))] => w = none ∧ WzC E τ (tkW (T.1 k) (xth z k).2.1.2.1 u)
  | _, _ => True
abbrev Uz_takeValue : CqC := fun As σ w τ => ∀ y, Pz_takeValue y As σ → Qz_takeValue y As σ w τ
set_option maxHeartbeats 4000000 in
theorem pz_takeValue (y : (Int → Int) × (Nat → Nat) × (Nat → Nat) × (Nat → Nat) × (Nat → Nat) × ZS × TbT × MfT × Nat × WzS × Nat) : PbC KX2_takeValue [(45, TrP, EqC 45), (221, TrP, EqC 221), (118, TrP, EqC 118)] [(45, Uz_join), (221, Uz_has), (118, Uz_tell)] (fun As σ => Pz_takeValue y As σ ∧ cnC σ ≤ 1000000 ∧ ∃ w τ, uqC quL 44 As σ w τ) (Qz_takeValue y) := by
  obtain ⟨N, E, A, B, V, z, T, ms, nm, u, k⟩ := y
  rintro As σ ⟨⟨p1, rfl, hSs, hPf, hWh, hk, hp, hlk⟩, hcn, _, _, hQ⟩ K hB hW n_
  have op : (TwC σ p1 (T.1 k) ∧ XzC σ (xth z k) k p1 ∧ (¬ (xth z k).1.1 = 10 → (fIC σ p1 67).toInt = (xth z k).2.1.2.1)) ∧ p1 < cnC σ := by rw [hp]; exact hSs.2.1 k hk
  change K n_ 0 [(0, .inr (.inr (some (E 4)))), (1, .inr (.inr (some p1)))] [] σ
  refine hB _ _ _ _ _ (fun m51 hm51 => ?_)
  dsimp only [ucgo, ucwp, ucsC, uqC, uoC, ctC, rfd, KX2_takeValue, KX2_takeValue_0, KX2_takeValue_7, KX2_takeValue_14, KX2_takeValue_33, KX2_takeValue_46, lkC, s1C, s2C, dlC, kyC, Nat.beq, Nat.ble, rcd, rno, rsw, Nat.reduceAdd, Nat.reduceBEq, Nat.reduceDiv, List.drop, List.take, List.reverse, List.reverseAux, Int.toNat, Option.toList, List.append, List.cons_append, List.nil_append, zg66, zg67, zg70, zg90, zg91, zg92]
  intro a52 e52 ob52
  cases e52
  have f53 : (fIC σ p1 70).toInt = (T.1 k).2.1 := op.1.1.2.1
  refine ⟨fun h54 => ?_, fun h54 => ?_⟩
  · have g54 := (neI (x := (fIC σ p1 70)) (y := 0) h54 : ¬ ((fIC σ p1 70) : Int32).toInt = (0 : Int32).toInt)
    have z0_ : (0 : Int32).toInt = 0 := rfl
    refine hB _ _ _ _ _ (fun m55 hm55 => ?_)
    dsimp only [ucgo, ucwp, ucsC, uqC, uoC, ctC, rfd, KX2_takeValue, KX2_takeValue_0, KX2_takeValue_7, KX2_takeValue_14, KX2_takeValue_33, KX2_takeValue_46, lkC, s1C, s2C, dlC, kyC, Nat.beq, Nat.ble, rcd, rno, rsw, Nat.reduceAdd, Nat.reduceBEq, Nat.reduceDiv, List.drop, List.take, List.reverse, List.reverseAux, Int.toNat, Option.toList, List.append, List.cons_append, List.nil_append, zg66, zg67, zg70, zg90, zg91, zg92]
    intro w56 τ56 o56 q56
    obtain ⟨rfl, hWh56⟩ := q56 (N, E, A, B, V, z, T, ms, nm, u, k) ⟨_, _, rfl, hSs, hPf, hWh, hk, hp⟩
    have hF56 : FrE [91, 92, 94, 217, 218, 285, 286, 287, 288, 901] σ τ56 := FrE.mo o56.2 rfl
    have hSs_56 := SsC.fr hSs hF56 rfl
    have hPf_56 := PfC.fr hPf hF56 rfl
    have op_56 : (TwC τ56 p1 (T.1 k) ∧ XzC τ56 (xth z k) k p1 ∧ (¬ (xth z k).1.1 = 10 → (fIC τ56 p1 67).toInt = (xth z k).2.1.2.1)) ∧ p1 < cnC τ56 := by rw [hp]; exact hSs_56.2.1 k hk
    try dsimp only [Option.toList, List.cons_append, List.nil_append, s1C, s2C, dlC, kyC, Nat.beq, lkC, rcd, rno, rsw]
    try dsimp only [Qz_takeValue]
    have hfin : tkW (T.1 k) (xth z k).2.1.2.1 u = jnT (T.1 k) (Int64.ofNat ((0 : Fin 2) : Nat)) u := by
      unfold tkW
      rw [if_neg (fun q9 => by have := q9.1; have := q9.2.1; omega)]
      rfl
    exact fun τ9 h9 => ⟨rfl, by rw [hfin]; exact hWh56.we h9⟩
  · have g54 := (eqI (x := (fIC σ p1 70)) (y := 0) h54 : ((fIC σ p1 70) : Int32).toInt = (0 : Int32).toInt)
    have z0_ : (0 : Int32).toInt = 0 := rfl
    refine hB _ _ _ _ _ (fun m57 hm57 => ?_)
    dsimp only [ucgo, ucwp, ucsC, uqC, uoC, ctC, rfd, KX2_takeValue, KX2_takeValue_0, KX2_takeValue_7, KX2_takeValue_14, KX2_takeValue_33, KX2_takeValue_46, lkC, s1C, s2C, dlC, kyC, Nat.beq, Nat.ble, rcd, rno, rsw, Nat.reduceAdd, Nat.reduceBEq, Nat.reduceDiv, List.drop, List.take, List.reverse, List.reverseAux, Int.toNat, Option.toList, List.append, List.cons_append, List.nil_append, zg66, zg67, zg70, zg90, zg91, zg92]
    intro a58 e58 ob58
    cases e58
    have f59 : (fIC σ p1 67).toInt = (xth z k).2.1.2.1 := op.1.2.2 hlk.2
    refine ⟨fun h60 => ?_, fun h60 => ?_⟩
    · have g60 := ltI (x := (fIC σ p1 67)) (y := 0) h60
      have z0_ : (0 : Int32).toInt = 0 := rfl
      refine hB _ _ _ _ _ (fun m61 hm61 => ?_)
      dsimp only [ucgo, ucwp, ucsC, uqC, uoC, ctC, rfd, KX2_takeValue, KX2_takeValue_0, KX2_takeValue_7, KX2_takeValue_14, KX2_takeValue_33, KX2_takeValue_46, lkC, s1C, s2C, dlC, kyC, Nat.beq, Nat.ble, rcd, rno, rsw, Nat.reduceAdd, Nat.reduceBEq, Nat.reduceDiv, List.drop, List.take, List.reverse, List.reverseAux, Int.toNat, Option.toList, List.append, List.cons_append, List.nil_append, zg66, zg67, zg70, zg90, zg91, zg92]
      intro w62 τ62 o62 q62
      obtain ⟨rfl, hWh62⟩ := q62 (N, E, A, B, V, z, T, ms, nm, u, k) ⟨_, _, rfl, hSs, hPf, hWh, hk, hp⟩
      have hF62 : FrE [91, 92, 94, 217, 218, 285, 286, 287, 288, 901] σ τ62 := FrE.mo o62.2 rfl
      have hSs_62 := SsC.fr hSs hF62 rfl
      have hPf_62 := PfC.fr hPf hF62 rfl
      have op_62 : (TwC τ62 p1 (T.1 k) ∧ XzC τ62 (xth z k) k p1 ∧ (¬ (xth z k).1.1 = 10 → (fIC τ62 p1 67).toInt = (xth z k).2.1.2.1)) ∧ p1 < cnC τ62 := by rw [hp]; exact hSs_62.2.1 k hk
      try dsimp only [Option.toList, List.cons_append, List.nil_append, s1C, s2C, dlC, kyC, Nat.beq, lkC, rcd, rno, rsw]
      try dsimp only [Qz_takeValue]
      have hfin : tkW (T.1 k) (xth z k).2.1.2.1 u = jnT (T.1 k) (Int64.ofNat ((0 : Fin 2) : Nat)) u := by
        unfold tkW
        rw [if_neg (fun q9 => by have := q9.1; have := q9.2.1; omega)]
        rfl
      exact fun τ9 h9 => ⟨rfl, by rw [hfin]; exact hWh62.we h9⟩
    · have g60 := nltI (x := (fIC σ p1 67)) (y := 0) h60
      have z0_ : (0 : Int32).toInt = 0 := rfl
      refine hB _ _ _ _ _ (fun m63 hm63 => ?_)
      dsimp only [ucgo, ucwp, ucsC, uqC, uoC, ctC, rfd, KX2_takeValue, KX2_takeValue_0, KX2_takeValue_7, KX2_takeValue_14, KX2_takeValue_33, KX2_takeValue_46, lkC, s1C, s2C, dlC, kyC, Nat.beq, Nat.ble, rcd, rno, rsw, Nat.reduceAdd, Nat.reduceBEq, Nat.reduceDiv, List.drop, List.take, List.reverse, List.reverseAux, Int.toNat, Option.toList, List.append, List.cons_append, List.nil_append, zg66, zg67, zg70, zg90, zg91, zg92]
      intro a64 e64 ob64
      cases e64
      have f65 : (fLC σ (E 4) 91) = u.1 := hWh.1.1
      intro a66 e66 ob66
      cases e66
      have f67 : (fLC σ (E 4) 92) = u.2.1 := hWh.1.2.1
      intro a68 e68 ob68
      cases e68
      have f69 : (fIC σ p1 67).toInt = (xth z k).2.1.2.1 := op.1.2.2 hlk.2
      intro w70 τ70 o70 q70
      have qq70 := q70 (N, E, A, B, V, z, (xth z k).2.1.2.1.toNat) ⟨_, _, rfl, by omega, by omega⟩
      obtain ⟨r70, rfl, hr70, rfl⟩ : ∃ r, w70 = some (.inl r) ∧ r.toInt = bZI (hasQ (u.1 &&& u.2.1) (xth z k).2.1.2.1) ∧ σ = τ70 := by
        unfold hasQ
        rw [← f65, ← f67]
        rcases qq70 with ⟨r, h1, h2, h3, h4⟩ | ⟨r, h1, h2, h3, h4⟩
        · exact ⟨r, h1, by rw [h3]; exact h2, h4⟩
        · exact ⟨r, h1, by rw [h3]; exact h2, h4⟩
      try dsimp only [Option.toList, List.cons_append, List.nil_append, s1C, s2C, dlC, kyC, Nat.beq, lkC, rcd, rno, rsw]
      refine ⟨fun h71 => ?_, fun h71 => ?_⟩
      · have g71 := (neI (x := r70) (y := 0) h71 : ¬ (r70 : Int32).toInt = (0 : Int32).toInt)
        have z0_ : (0 : Int32).toInt = 0 := rfl
        have hb71 : (hasQ (u.1 &&& u.2.1) (xth z k).2.1.2.1) = true := bZI_t (by omega)
        refine hB _ _ _ _ _ (fun m72 hm72 => ?_)
        dsimp only [ucgo, ucwp, ucsC, uqC, uoC, ctC, rfd, KX2_takeValue, KX2_takeValue_0, KX2_takeValue_7, KX2_takeValue_14, KX2_takeValue_33, KX2_takeValue_46, lkC, s1C, s2C, dlC, kyC, Nat.beq, Nat.ble, rcd, rno, rsw, Nat.reduceAdd, Nat.reduceBEq, Nat.reduceDiv, List.drop, List.take, List.reverse, List.reverseAux, Int.toNat, Option.toList, List.append, List.cons_append, List.nil_append, zg66, zg67, zg70, zg90, zg91, zg92]
        intro w73 τ73 o73 q73
        obtain ⟨rfl, hWh73⟩ := q73 (N, E, A, B, V, z, T, ms, nm, u, k) ⟨_, _, rfl, hSs, hPf, hWh, hk, hp⟩
        have hF73 : FrE [91, 92, 94, 217, 218, 285, 286, 287, 288, 901] σ τ73 := FrE.mo o73.2 rfl
        have hSs_73 := SsC.fr hSs hF73 rfl
        have hPf_73 := PfC.fr hPf hF73 rfl
        have op_73 : (TwC τ73 p1 (T.1 k) ∧ XzC τ73 (xth z k) k p1 ∧ (¬ (xth z k).1.1 = 10 → (fIC τ73 p1 67).toInt = (xth z k).2.1.2.1)) ∧ p1 < cnC τ73 := by rw [hp]; exact hSs_73.2.1 k hk
        try dsimp only [Option.toList, List.cons_append, List.nil_append, s1C, s2C, dlC, kyC, Nat.beq, lkC, rcd, rno, rsw]
        try dsimp only [Qz_takeValue]
        have hfin : tkW (T.1 k) (xth z k).2.1.2.1 u = jnT (T.1 k) (Int64.ofNat ((0 : Fin 2) : Nat)) u := by
          unfold tkW
          rw [if_neg (fun q9 => by rw [hb71] at q9; exact absurd q9.2.2 (by decide))]
          rfl
        exact fun τ9 h9 => ⟨rfl, by rw [hfin]; exact hWh73.we h9⟩
      · have g71 := (eqI (x := r70) (y := 0) h71 : (r70 : Int32).toInt = (0 : Int32).toInt)
        have z0_ : (0 : Int32).toInt = 0 := rfl
        have hb71 : (hasQ (u.1 &&& u.2.1) (xth z k).2.1.2.1) = false := bZI_f (by omega)
        refine hB _ _ _ _ _ (fun m74 hm74 => ?_)
        dsimp only [ucgo, ucwp, ucsC, uqC, uoC, ctC, rfd, KX2_takeValue, KX2_takeValue_0, KX2_takeValue_7, KX2_takeValue_14, KX2_takeValue_33, KX2_takeValue_46, lkC, s1C, s2C, dlC, kyC, Nat.beq, Nat.ble, rcd, rno, rsw, Nat.reduceAdd, Nat.reduceBEq, Nat.reduceDiv, List.drop, List.take, List.reverse, List.reverseAux, Int.toNat, Option.toList, List.append, List.cons_append, List.nil_append, zg66, zg67, zg70, zg90, zg91, zg92]
        intro a75 e75 ob75
        cases e75
        have c77 : (Int32.ofInt 15).toInt = 15 := by decide
        intro a78 e78 ob78
        cases e78
        have f79 : (fIC σ p1 66).toInt = (xth z k).2.1.1 := op.1.2.1.2.2.2.2
        rw [hPf.1]
        try dsimp only
        intro w80 τ80 o80 q80
        obtain ⟨rfl, hb_80⟩ := q80 (N, E, A, B, V, z) ⟨_, _, rfl, by omega⟩
        have hWh80 := WzC.x hWh o80.2 hPf.2 hb_80
        have hF80 : FrE [91, 92, 94, 217, 218, 285, 286, 287, 288, 901] σ τ80 := FrE.mo o80.2 rfl
        have hSs_80 := SsC.fr hSs hF80 rfl
        have hPf_80 := PfC.fr hPf hF80 rfl
        have op_80 : (TwC τ80 p1 (T.1 k) ∧ XzC τ80 (xth z k) k p1 ∧ (¬ (xth z k).1.1 = 10 → (fIC τ80 p1 67).toInt = (xth z k).2.1.2.1)) ∧ p1 < cnC τ80 := by rw [hp]; exact hSs_80.2.1 k hk
        try dsimp only [Option.toList, List.cons_append, List.nil_append, s1C, s2C, dlC, kyC, Nat.beq, lkC, rcd, rno, rsw]
        refine hB _ _ _ _ _ (fun m81 hm81 => ?_)
        dsimp only [ucgo, ucwp, ucsC, uqC, uoC, ctC, rfd, KX2_takeValue, KX2_takeValue_0, KX2_takeValue_7, KX2_takeValue_14, KX2_takeValue_33, KX2_takeValue_46, lkC, s1C, s2C, dlC, kyC, Nat.beq, Nat.ble, rcd, rno, rsw, Nat.reduceAdd, Nat.reduceBEq, Nat.reduceDiv, List.drop, List.take, List.reverse, List.reverseAux, Int.toNat, Option.toList, List.append, List.cons_append, List.nil_append, zg66, zg67, zg70, zg90, zg91, zg92]
        intro w82 τ82 o82 q82
        obtain ⟨rfl, hWh82⟩ := q82 (N, E, A, B, V, z, T, ms, nm, erW u, k) ⟨_, _, rfl, hSs_80, hPf_80, hWh80, hk, hp⟩
        have hF82 : FrE [91, 92, 94, 217, 218, 285, 286, 287, 288, 901] σ τ82 := hF80.tr (o82.2.mo rfl)
        have hSs_82 := SsC.fr hSs hF82 rfl
        have hPf_82 := PfC.fr hPf hF82 rfl
        have op_82 : (TwC τ82 p1 (T.1 k) ∧ XzC τ82 (xth z k) k p1 ∧ (¬ (xth z k).1.1 = 10 → (fIC τ82 p1 67).toInt = (xth z k).2.1.2.1)) ∧ p1 < cnC τ82 := by rw [hp]; exact hSs_82.2.1 k hk
        try dsimp only [Option.toList, List.cons_append, List.nil_append, s1C, s2C, dlC, kyC, Nat.beq, lkC, rcd, rno, rsw]
        try dsimp only [Qz_takeValue]
        have hfin : tkW (T.1 k) (xth z k).2.1.2.1 u = jnT (T.1 k) (Int64.ofNat ((0 : Fin 2) : Nat)) (erW u) := by
          unfold tkW
          rw [if_pos ⟨by omega, by omega, hb71⟩]
          rfl
        exact fun τ9 h9 => ⟨rfl, by rw [hfin]; exact hWh82.we h9⟩
theorem wz_takeValue : ∀ (L : Nat) (As : List AvC) (σ : CsC) (w : Option AvC) (τ : CsC), EvF L 44 As σ w τ → Uz_takeValue As σ w τ := by
  intro L
  cases L with
  | zero => exact fun _ _ _ _ h => h.elim
  | succ L => exact fun As σ w τ h y hy => EvF.us (cs := [45, 221, 118]) (pz_takeValue y) rfl (List.forall_mem_cons.2 ⟨wz_join L, List.forall_mem_cons.2 ⟨wz_has L, List.forall_mem_cons.2 ⟨wz_tell L, fun _ h => absurd h List.not_mem_nil⟩⟩⟩) h hy
abbrev Pz_pass : ((Int → Int) × (Nat → Nat) × (Nat → Nat) × (Nat → Nat) × (Nat → Nat) × ZS × TbT × MfT × Nat × WzS × Nat) → CpC := fun y As σ => match y with
  | (N, E, A, B, V, z, T, ms, nm, u, k) => ∃ (p1 : Nat), As = [.inr (.inr (some (E 4))), .inr (.inr (some p1))] ∧ (SsC E A B σ z T ms nm) ∧ (PfC E σ) ∧ (WzC E σ u) ∧ (k < xnM z) ∧ (p1 = A k) ∧ (¬ (xth z k).1.1 = 10 → (xth z k).2.1.2.1 < 64)
abbrev Qz_pass : ((Int → Int) × (Nat → Nat) × (Nat → Nat) × (Nat → Nat) × (Nat → Nat) × ZS × TbT × MfT × Nat × WzS × Nat) → CqC := fun y As σ w τ => match y, As with
  | (N, E, A, B, V, z, T, ms, nm, u, k), [_, .inr (.inr (some p1))] => w = none ∧ WzC E τ (paW (xth z k) (T.1 k) u)
  | _, _ => True
abbrev Uz_pass : CqC := fun As σ w τ => ∀ y, Pz_pass y As σ → Qz_pass y As σ w τ
set_option maxHeartbeats 4000000 in
theorem pz_pass (y : (Int → Int) × (Nat → Nat) × (Nat → Nat) × (Nat → Nat) × (Nat → Nat) × ZS × TbT × MfT × Nat × WzS × Nat) : PbC KX2_pass [(44, TrP, EqC 44), (45, TrP, EqC 45), (43, TrP, EqC 43), (47, TrP, EqC 47), (222, TrP, EqC 222), (41, TrP, EqC 41), (42, TrP, EqC 42)] [(44, Uz_takeValue), (45, Uz_join), (43, Uz_passChain), (47, Uz_fromAside), (222, Uz_bitq), (41, Uz_fork), (42, Uz_passElse)] (fun As σ => Pz_pass y As σ ∧ cnC σ ≤ 1000000 ∧ ∃ w τ, uqC quL 40 As σ w τ) (Qz_pass y) := by
  obtain ⟨N, E, A, B, V, z, T, ms, nm, u, k⟩ := y
  rintro As σ ⟨⟨p1, rfl, hSs, hPf, hWh, hk, hp, hlk⟩, hcn, _, _, hQ⟩ K hB hW n_
  have op : (TwC σ p1 (T.1 k) ∧ XzC σ (xth z k) k p1 ∧ (¬ (xth z k).1.1 = 10 → (fIC σ p1 67).toInt = (xth z k).2.1.2.1)) ∧ p1 < cnC σ := by rw [hp]; exact hSs.2.1 k hk
  change K n_ 0 [(0, .inr (.inr (some (E 4)))), (1, .inr (.inr (some p1)))] [] σ
  refine hB _ _ _ _ _ (fun m51 hm51 => ?_)
  dsimp only [ucgo, ucwp, ucsC, uqC, uoC, ctC, rfd, KX2_pass, KX2_pass_0, KX2_pass_72, KX2_pass_75, KX2_pass_84, KX2_pass_99, KX2_pass_114, KX2_pass_129, KX2_pass_136, KX2_pass_165, KX2_pass_173, KX2_pass_182, KX2_pass_203, KX2_pass_211, KX2_pass_220, KX2_pass_230, KX2_pass_231, KX2_pass_237, KX2_pass_243, lkC, s1C, s2C, dlC, kyC, Nat.beq, Nat.ble, rcd, rno, rsw, Nat.reduceAdd, Nat.reduceBEq, Nat.reduceDiv, List.drop, List.take, List.reverse, List.reverseAux, Int.toNat, Option.toList, List.append, List.cons_append, List.nil_append, zg60, zg61, zg67, zg91, zg92]
  intro a52 e52 ob52
  cases e52
  have f53 : (fIC σ p1 60).toInt = (xth z k).1.1 := op.1.2.1.1
  refine ⟨fun h54 => ?_, fun h54 => ?_⟩
  · have g54 : ((fIC σ p1 60) : Int32).toInt = 2 := h54
    refine hB _ _ _ _ _ (fun m55 hm55 => ?_)
    dsimp only [ucgo, ucwp, ucsC, uqC, uoC, ctC, rfd, KX2_pass, KX2_pass_0, KX2_pass_72, KX2_pass_75, KX2_pass_84, KX2_pass_99, KX2_pass_114, KX2_pass_129, KX2_pass_136, KX2_pass_165, KX2_pass_173, KX2_pass_182, KX2_pass_203, KX2_pass_211, KX2_pass_220, KX2_pass_230, KX2_pass_231, KX2_pass_237, KX2_pass_243, lkC, s1C, s2C, dlC, kyC, Nat.beq, Nat.ble, rcd, rno, rsw, Nat.reduceAdd, Nat.reduceBEq, Nat.reduceDiv, List.drop, List.take, List.reverse, List.reverseAux, Int.toNat, Option.toList, List.append, List.cons_append, List.nil_append, zg60, zg61, zg67, zg91, zg92]
    intro w56 τ56 o56 q56
    obtain ⟨rfl, hWh56⟩ := q56 (N, E, A, B, V, z, T, ms, nm, u, k) ⟨_, rfl, hSs, hPf, hWh, hk, hp, ⟨hlk (by omega), by omega⟩⟩
    have hF56 : FrE [91, 92, 94, 217, 218, 285, 286, 287, 288, 901] σ τ56 := FrE.mo o56.2 rfl
    have hSs_56 := SsC.fr hSs hF56 rfl
    have hPf_56 := PfC.fr hPf hF56 rfl
    have op_56 : (TwC τ56 p1 (T.1 k) ∧ XzC τ56 (xth z k) k p1 ∧ (¬ (xth z k).1.1 = 10 → (fIC τ56 p1 67).toInt = (xth z k).2.1.2.1)) ∧ p1 < cnC τ56 := by rw [hp]; exact hSs_56.2.1 k hk
    try dsimp only [Option.toList, List.cons_append, List.nil_append, s1C, s2C, dlC, kyC, Nat.beq, lkC, rcd, rno, rsw]
    refine hB _ _ _ _ _ (fun m57 hm57 => ?_)
    dsimp only [ucgo, ucwp, ucsC, uqC, uoC, ctC, rfd, KX2_pass, KX2_pass_0, KX2_pass_72, KX2_pass_75, KX2_pass_84, KX2_pass_99, KX2_pass_114, KX2_pass_129, KX2_pass_136, KX2_pass_165, KX2_pass_173, KX2_pass_182, KX2_pass_203, KX2_pass_211, KX2_pass_220, KX2_pass_230, KX2_pass_231, KX2_pass_237, KX2_pass_243, lkC, s1C, s2C, dlC, kyC, Nat.beq, Nat.ble, rcd, rno, rsw, Nat.reduceAdd, Nat.reduceBEq, Nat.reduceDiv, List.drop, List.take, List.reverse, List.reverseAux, Int.toNat, Option.toList, List.append, List.cons_append, List.nil_append, zg60, zg61, zg67, zg91, zg92]
    try dsimp only [Qz_pass]
    have hfin : paW (xth z k) (T.1 k) u = tkW (T.1 k) (xth z k).2.1.2.1 u := by
      rw [pa_2 (by omega)]
    exact fun τ9 h9 => ⟨rfl, by rw [hfin]; exact hWh56.we h9⟩
  have g54 : ¬ ((fIC σ p1 60) : Int32).toInt = 2 := h54
  refine ⟨fun h58 => ?_, fun h58 => ?_⟩
  · have g58 : ((fIC σ p1 60) : Int32).toInt = 3 := h58
    refine hB _ _ _ _ _ (fun m59 hm59 => ?_)
    dsimp only [ucgo, ucwp, ucsC, uqC, uoC, ctC, rfd, KX2_pass, KX2_pass_0, KX2_pass_72, KX2_pass_75, KX2_pass_84, KX2_pass_99, KX2_pass_114, KX2_pass_129, KX2_pass_136, KX2_pass_165, KX2_pass_173, KX2_pass_182, KX2_pass_203, KX2_pass_211, KX2_pass_220, KX2_pass_230, KX2_pass_231, KX2_pass_237, KX2_pass_243, lkC, s1C, s2C, dlC, kyC, Nat.beq, Nat.ble, rcd, rno, rsw, Nat.reduceAdd, Nat.reduceBEq, Nat.reduceDiv, List.drop, List.take, List.reverse, List.reverseAux, Int.toNat, Option.toList, List.append, List.cons_append, List.nil_append, zg60, zg61, zg67, zg91, zg92]
    refine hB _ _ _ _ _ (fun m60 hm60 => ?_)
    dsimp only [ucgo, ucwp, ucsC, uqC, uoC, ctC, rfd, KX2_pass, KX2_pass_0, KX2_pass_72, KX2_pass_75, KX2_pass_84, KX2_pass_99, KX2_pass_114, KX2_pass_129, KX2_pass_136, KX2_pass_165, KX2_pass_173, KX2_pass_182, KX2_pass_203, KX2_pass_211, KX2_pass_220, KX2_pass_230, KX2_pass_231, KX2_pass_237, KX2_pass_243, lkC, s1C, s2C, dlC, kyC, Nat.beq, Nat.ble, rcd, rno, rsw, Nat.reduceAdd, Nat.reduceBEq, Nat.reduceDiv, List.drop, List.take, List.reverse, List.reverseAux, Int.toNat, Option.toList, List.append, List.cons_append, List.nil_append, zg60, zg61, zg67, zg91, zg92]
    try dsimp only [Qz_pass]
    have hfin : paW (xth z k) (T.1 k) u = u := by
      exact pa_3 (by omega)
    exact fun τ9 h9 => ⟨rfl, by rw [hfin]; exact hWh.we h9⟩
  have g58 : ¬ ((fIC σ p1 60) : Int32).toInt = 3 := h58
  refine ⟨fun h61 => ?_, fun h61 => ?_⟩
  · have g61 : ((fIC σ p1 60) : Int32).toInt = 4 := h61
    refine hB _ _ _ _ _ (fun m62 hm62 => ?_)
    dsimp only [ucgo, ucwp, ucsC, uqC, uoC, ctC, rfd, KX2_pass, KX2_pass_0, KX2_pass_72, KX2_pass_75, KX2_pass_84, KX2_pass_99, KX2_pass_114, KX2_pass_129, KX2_pass_136, KX2_pass_165, KX2_pass_173, KX2_pass_182, KX2_pass_203, KX2_pass_211, KX2_pass_220, KX2_pass_230, KX2_pass_231, KX2_pass_237, KX2_pass_243, lkC, s1C, s2C, dlC, kyC, Nat.beq, Nat.ble, rcd, rno, rsw, Nat.reduceAdd, Nat.reduceBEq, Nat.reduceDiv, List.drop, List.take, List.reverse, List.reverseAux, Int.toNat, Option.toList, List.append, List.cons_append, List.nil_append, zg60, zg61, zg67, zg91, zg92]
    intro a63 e63 ob63
    cases e63
    have f64 : (fIC σ p1 61).toInt = (xth z k).1.2.1 := op.1.2.1.2.1
    have c65 : (Int32.ofInt 39).toInt = 39 := by decide
    refine ⟨fun h66 => ?_, fun h66 => ?_⟩
    · have g66 := (neI (x := (fIC σ p1 61)) (y := (Int32.ofInt 39)) h66 : ¬ ((fIC σ p1 61) : Int32).toInt = ((Int32.ofInt 39) : Int32).toInt)
      refine hB _ _ _ _ _ (fun m67 hm67 => ?_)
      dsimp only [ucgo, ucwp, ucsC, uqC, uoC, ctC, rfd, KX2_pass, KX2_pass_0, KX2_pass_72, KX2_pass_75, KX2_pass_84, KX2_pass_99, KX2_pass_114, KX2_pass_129, KX2_pass_136, KX2_pass_165, KX2_pass_173, KX2_pass_182, KX2_pass_203, KX2_pass_211, KX2_pass_220, KX2_pass_230, KX2_pass_231, KX2_pass_237, KX2_pass_243, lkC, s1C, s2C, dlC, kyC, Nat.beq, Nat.ble, rcd, rno, rsw, Nat.reduceAdd, Nat.reduceBEq, Nat.reduceDiv, List.drop, List.take, List.reverse, List.reverseAux, Int.toNat, Option.toList, List.append, List.cons_append, List.nil_append, zg60, zg61, zg67, zg91, zg92]
      try dsimp only [Qz_pass]
      have hfin : paW (xth z k) (T.1 k) u = u := by
        rw [pa_4 (by omega), if_neg (by omega)]
      exact fun τ9 h9 => ⟨rfl, by rw [hfin]; exact hWh.we h9⟩
    · have g66 := (eqI (x := (fIC σ p1 61)) (y := (Int32.ofInt 39)) h66 : ((fIC σ p1 61) : Int32).toInt = ((Int32.ofInt 39) : Int32).toInt)
      refine hB _ _ _ _ _ (fun m68 hm68 => ?_)
      dsimp only [ucgo, ucwp, ucsC, uqC, uoC, ctC, rfd, KX2_pass, KX2_pass_0, KX2_pass_72, KX2_pass_75, KX2_pass_84, KX2_pass_99, KX2_pass_114, KX2_pass_129, KX2_pass_136, KX2_pass_165, KX2_pass_173, KX2_pass_182, KX2_pass_203, KX2_pass_211, KX2_pass_220, KX2_pass_230, KX2_pass_231, KX2_pass_237, KX2_pass_243, lkC, s1C, s2C, dlC, kyC, Nat.beq, Nat.ble, rcd, rno, rsw, Nat.reduceAdd, Nat.reduceBEq, Nat.reduceDiv, List.drop, List.take, List.reverse, List.reverseAux, Int.toNat, Option.toList, List.append, List.cons_append, List.nil_append, zg60, zg61, zg67, zg91, zg92]
      intro a69 e69 ob69
      cases e69
      have f70 : (fLC σ (E 4) 91) = u.1 := hWh.1.1
      intro a71 e71 ob71
      cases e71
      have f72 : (fLC σ (E 4) 92) = u.2.1 := hWh.1.2.1
      intro a73 e73 ob73 fk73
      cases e73
      clear fk73 ob73
      generalize hs73 : pLC σ (E 4) 91 (fLC σ (E 4) 92) = s73
      have hWh73 := WzC.t hWh hs73
      have hF73 : FrE [91, 92, 94, 217, 218, 285, 286, 287, 288, 901] σ s73 := FrE.pL2 FrE.rf (by decide) hs73
      have hSs_73 := SsC.fr hSs hF73 rfl
      have hPf_73 := PfC.fr hPf hF73 rfl
      have op_73 : (TwC s73 p1 (T.1 k) ∧ XzC s73 (xth z k) k p1 ∧ (¬ (xth z k).1.1 = 10 → (fIC s73 p1 67).toInt = (xth z k).2.1.2.1)) ∧ p1 < cnC s73 := by rw [hp]; exact hSs_73.2.1 k hk
      intro a74 e74 ob74 fk74
      cases e74
      clear fk74 ob74
      generalize hs74 : pLC s73 (E 4) 92 (fLC σ (E 4) 91) = s74
      have hWh74 := WzC.f hWh73 hs74
      have hF74 : FrE [91, 92, 94, 217, 218, 285, 286, 287, 288, 901] σ s74 := FrE.pL2 hF73 (by decide) hs74
      have hSs_74 := SsC.fr hSs hF74 rfl
      have hPf_74 := PfC.fr hPf hF74 rfl
      have op_74 : (TwC s74 p1 (T.1 k) ∧ XzC s74 (xth z k) k p1 ∧ (¬ (xth z k).1.1 = 10 → (fIC s74 p1 67).toInt = (xth z k).2.1.2.1)) ∧ p1 < cnC s74 := by rw [hp]; exact hSs_74.2.1 k hk
      refine hB _ _ _ _ _ (fun m75 hm75 => ?_)
      dsimp only [ucgo, ucwp, ucsC, uqC, uoC, ctC, rfd, KX2_pass, KX2_pass_0, KX2_pass_72, KX2_pass_75, KX2_pass_84, KX2_pass_99, KX2_pass_114, KX2_pass_129, KX2_pass_136, KX2_pass_165, KX2_pass_173, KX2_pass_182, KX2_pass_203, KX2_pass_211, KX2_pass_220, KX2_pass_230, KX2_pass_231, KX2_pass_237, KX2_pass_243, lkC, s1C, s2C, dlC, kyC, Nat.beq, Nat.ble, rcd, rno, rsw, Nat.reduceAdd, Nat.reduceBEq, Nat.reduceDiv, List.drop, List.take, List.reverse, List.reverseAux, Int.toNat, Option.toList, List.append, List.cons_append, List.nil_append, zg60, zg61, zg67, zg91, zg92]
      try dsimp only [Qz_pass]
      have hfin : paW (xth z k) (T.1 k) u = (((fLC σ (E 4) 92), u.2).1, (fLC σ (E 4) 91), ((fLC σ (E 4) 92), u.2).2.2) := by
        rw [pa_4 (by omega), if_pos (by omega), f70, f72]
      exact fun τ9 h9 => ⟨rfl, by rw [hfin]; exact hWh74.we h9⟩
  have g61 : ¬ ((fIC σ p1 60) : Int32).toInt = 4 := h61
  refine ⟨fun h76 => ?_, fun h76 => ?_⟩
  · have g76 : ((fIC σ p1 60) : Int32).toInt = 5 := h76
    refine hB _ _ _ _ _ (fun m77 hm77 => ?_)
    dsimp only [ucgo, ucwp, ucsC, uqC, uoC, ctC, rfd, KX2_pass, KX2_pass_0, KX2_pass_72, KX2_pass_75, KX2_pass_84, KX2_pass_99, KX2_pass_114, KX2_pass_129, KX2_pass_136, KX2_pass_165, KX2_pass_173, KX2_pass_182, KX2_pass_203, KX2_pass_211, KX2_pass_220, KX2_pass_230, KX2_pass_231, KX2_pass_237, KX2_pass_243, lkC, s1C, s2C, dlC, kyC, Nat.beq, Nat.ble, rcd, rno, rsw, Nat.reduceAdd, Nat.reduceBEq, Nat.reduceDiv, List.drop, List.take, List.reverse, List.reverseAux, Int.toNat, Option.toList, List.append, List.cons_append, List.nil_append, zg60, zg61, zg67, zg91, zg92]
    intro w78 τ78 o78 q78
    obtain ⟨rfl, hWh78⟩ := q78 (N, E, A, B, V, z, T, ms, nm, u, k) ⟨_, _, rfl, hSs, hPf, hWh, hk, hp⟩
    have hF78 : FrE [91, 92, 94, 217, 218, 285, 286, 287, 288, 901] σ τ78 := FrE.mo o78.2 rfl
    have hSs_78 := SsC.fr hSs hF78 rfl
    have hPf_78 := PfC.fr hPf hF78 rfl
    have op_78 : (TwC τ78 p1 (T.1 k) ∧ XzC τ78 (xth z k) k p1 ∧ (¬ (xth z k).1.1 = 10 → (fIC τ78 p1 67).toInt = (xth z k).2.1.2.1)) ∧ p1 < cnC τ78 := by rw [hp]; exact hSs_78.2.1 k hk
    try dsimp only [Option.toList, List.cons_append, List.nil_append, s1C, s2C, dlC, kyC, Nat.beq, lkC, rcd, rno, rsw]
    refine hB _ _ _ _ _ (fun m79 hm79 => ?_)
    dsimp only [ucgo, ucwp, ucsC, uqC, uoC, ctC, rfd, KX2_pass, KX2_pass_0, KX2_pass_72, KX2_pass_75, KX2_pass_84, KX2_pass_99, KX2_pass_114, KX2_pass_129, KX2_pass_136, KX2_pass_165, KX2_pass_173, KX2_pass_182, KX2_pass_203, KX2_pass_211, KX2_pass_220, KX2_pass_230, KX2_pass_231, KX2_pass_237, KX2_pass_243, lkC, s1C, s2C, dlC, kyC, Nat.beq, Nat.ble, rcd, rno, rsw, Nat.reduceAdd, Nat.reduceBEq, Nat.reduceDiv, List.drop, List.take, List.reverse, List.reverseAux, Int.toNat, Option.toList, List.append, List.cons_append, List.nil_append, zg60, zg61, zg67, zg91, zg92]
    try dsimp only [Qz_pass]
    have hfin : paW (xth z k) (T.1 k) u = jnT (T.1 k) (Int64.ofNat ((0 : Fin 2) : Nat)) u := by
      rw [pa_o (by omega)]
      rfl
    exact fun τ9 h9 => ⟨rfl, by rw [hfin]; exact hWh78.we h9⟩
  have g76 : ¬ ((fIC σ p1 60) : Int32).toInt = 5 := h76
  refine ⟨fun h80 => ?_, fun h80 => ?_⟩
  · have g80 : ((fIC σ p1 60) : Int32).toInt = 6 := h80
    refine hB _ _ _ _ _ (fun m81 hm81 => ?_)
    dsimp only [ucgo, ucwp, ucsC, uqC, uoC, ctC, rfd, KX2_pass, KX2_pass_0, KX2_pass_72, KX2_pass_75, KX2_pass_84, KX2_pass_99, KX2_pass_114, KX2_pass_129, KX2_pass_136, KX2_pass_165, KX2_pass_173, KX2_pass_182, KX2_pass_203, KX2_pass_211, KX2_pass_220, KX2_pass_230, KX2_pass_231, KX2_pass_237, KX2_pass_243, lkC, s1C, s2C, dlC, kyC, Nat.beq, Nat.ble, rcd, rno, rsw, Nat.reduceAdd, Nat.reduceBEq, Nat.reduceDiv, List.drop, List.take, List.reverse, List.reverseAux, Int.toNat, Option.toList, List.append, List.cons_append, List.nil_append, zg60, zg61, zg67, zg91, zg92]
    intro w82 τ82 o82 q82
    obtain ⟨rfl, hWh82⟩ := q82 (N, E, A, B, V, z, T, ms, nm, u, k) ⟨_, rfl, hSs, hPf, hWh, hk, hp, ⟨hlk (by omega), by omega⟩⟩
    have hF82 : FrE [91, 92, 94, 217, 218, 285, 286, 287, 288, 901] σ τ82 := FrE.mo o82.2 rfl
    have hSs_82 := SsC.fr hSs hF82 rfl
    have hPf_82 := PfC.fr hPf hF82 rfl
    have op_82 : (TwC τ82 p1 (T.1 k) ∧ XzC τ82 (xth z k) k p1 ∧ (¬ (xth z k).1.1 = 10 → (fIC τ82 p1 67).toInt = (xth z k).2.1.2.1)) ∧ p1 < cnC τ82 := by rw [hp]; exact hSs_82.2.1 k hk
    try dsimp only [Option.toList, List.cons_append, List.nil_append, s1C, s2C, dlC, kyC, Nat.beq, lkC, rcd, rno, rsw]
    refine hB _ _ _ _ _ (fun m83 hm83 => ?_)
    dsimp only [ucgo, ucwp, ucsC, uqC, uoC, ctC, rfd, KX2_pass, KX2_pass_0, KX2_pass_72, KX2_pass_75, KX2_pass_84, KX2_pass_99, KX2_pass_114, KX2_pass_129, KX2_pass_136, KX2_pass_165, KX2_pass_173, KX2_pass_182, KX2_pass_203, KX2_pass_211, KX2_pass_220, KX2_pass_230, KX2_pass_231, KX2_pass_237, KX2_pass_243, lkC, s1C, s2C, dlC, kyC, Nat.beq, Nat.ble, rcd, rno, rsw, Nat.reduceAdd, Nat.reduceBEq, Nat.reduceDiv, List.drop, List.take, List.reverse, List.reverseAux, Int.toNat, Option.toList, List.append, List.cons_append, List.nil_append, zg60, zg61, zg67, zg91, zg92]
    try dsimp only [Qz_pass]
    have hfin : paW (xth z k) (T.1 k) u = tkW (T.1 k) (xth z k).2.1.2.1 u := by
      rw [pa_2 (by omega)]
    exact fun τ9 h9 => ⟨rfl, by rw [hfin]; exact hWh82.we h9⟩
  have g80 : ¬ ((fIC σ p1 60) : Int32).toInt = 6 := h80
  refine ⟨fun h84 => ?_, fun h84 => ?_⟩
  · have g84 : ((fIC σ p1 60) : Int32).toInt = 7 := h84
    refine hB _ _ _ _ _ (fun m85 hm85 => ?_)
    dsimp only [ucgo, ucwp, ucsC, uqC, uoC, ctC, rfd, KX2_pass, KX2_pass_0, KX2_pass_72, KX2_pass_75, KX2_pass_84, KX2_pass_99, KX2_pass_114, KX2_pass_129, KX2_pass_136, KX2_pass_165, KX2_pass_173, KX2_pass_182, KX2_pass_203, KX2_pass_211, KX2_pass_220, KX2_pass_230, KX2_pass_231, KX2_pass_237, KX2_pass_243, lkC, s1C, s2C, dlC, kyC, Nat.beq, Nat.ble, rcd, rno, rsw, Nat.reduceAdd, Nat.reduceBEq, Nat.reduceDiv, List.drop, List.take, List.reverse, List.reverseAux, Int.toNat, Option.toList, List.append, List.cons_append, List.nil_append, zg60, zg61, zg67, zg91, zg92]
    intro w86 τ86 o86 q86
    obtain ⟨rfl, hWh86⟩ := q86 (N, E, A, B, V, z, T, ms, nm, u, k) ⟨_, rfl, hSs, hPf, hWh, hk, hp⟩
    have hF86 : FrE [91, 92, 94, 217, 218, 285, 286, 287, 288, 901] σ τ86 := FrE.mo o86.2 rfl
    have hSs_86 := SsC.fr hSs hF86 rfl
    have hPf_86 := PfC.fr hPf hF86 rfl
    have op_86 : (TwC τ86 p1 (T.1 k) ∧ XzC τ86 (xth z k) k p1 ∧ (¬ (xth z k).1.1 = 10 → (fIC τ86 p1 67).toInt = (xth z k).2.1.2.1)) ∧ p1 < cnC τ86 := by rw [hp]; exact hSs_86.2.1 k hk
    try dsimp only [Option.toList, List.cons_append, List.nil_append, s1C, s2C, dlC, kyC, Nat.beq, lkC, rcd, rno, rsw]
    refine hB _ _ _ _ _ (fun m87 hm87 => ?_)
    dsimp only [ucgo, ucwp, ucsC, uqC, uoC, ctC, rfd, KX2_pass, KX2_pass_0, KX2_pass_72, KX2_pass_75, KX2_pass_84, KX2_pass_99, KX2_pass_114, KX2_pass_129, KX2_pass_136, KX2_pass_165, KX2_pass_173, KX2_pass_182, KX2_pass_203, KX2_pass_211, KX2_pass_220, KX2_pass_230, KX2_pass_231, KX2_pass_237, KX2_pass_243, lkC, s1C, s2C, dlC, kyC, Nat.beq, Nat.ble, rcd, rno, rsw, Nat.reduceAdd, Nat.reduceBEq, Nat.reduceDiv, List.drop, List.take, List.reverse, List.reverseAux, Int.toNat, Option.toList, List.append, List.cons_append, List.nil_append, zg60, zg61, zg67, zg91, zg92]
    try dsimp only [Qz_pass]
    have hfin : paW (xth z k) (T.1 k) u = chW (T.1 k) (xth z k).1.2.1 u := by
      rw [pa_7 (by omega)]
    exact fun τ9 h9 => ⟨rfl, by rw [hfin]; exact hWh86.we h9⟩
  have g84 : ¬ ((fIC σ p1 60) : Int32).toInt = 7 := h84
  refine ⟨fun h88 => ?_, fun h88 => ?_⟩
  · have g88 : ((fIC σ p1 60) : Int32).toInt = 8 := h88
    refine hB _ _ _ _ _ (fun m89 hm89 => ?_)
    dsimp only [ucgo, ucwp, ucsC, uqC, uoC, ctC, rfd, KX2_pass, KX2_pass_0, KX2_pass_72, KX2_pass_75, KX2_pass_84, KX2_pass_99, KX2_pass_114, KX2_pass_129, KX2_pass_136, KX2_pass_165, KX2_pass_173, KX2_pass_182, KX2_pass_203, KX2_pass_211, KX2_pass_220, KX2_pass_230, KX2_pass_231, KX2_pass_237, KX2_pass_243, lkC, s1C, s2C, dlC, kyC, Nat.beq, Nat.ble, rcd, rno, rsw, Nat.reduceAdd, Nat.reduceBEq, Nat.reduceDiv, List.drop, List.take, List.reverse, List.reverseAux, Int.toNat, Option.toList, List.append, List.cons_append, List.nil_append, zg60, zg61, zg67, zg91, zg92]
    intro a90 e90 ob90
    cases e90
    have f91 : (fLC σ (E 4) 92) = u.2.1 := hWh.1.2.1
    intro w92 τ92 o92 q92
    obtain ⟨r92, rfl, hr92, hWh92⟩ := q92 (N, E, A, B, V, z, u) ⟨rfl, hWh⟩
    have hF92 : FrE [91, 92, 94, 217, 218, 285, 286, 287, 288, 901] σ τ92 := FrE.mo o92.2 rfl
    have hSs_92 := SsC.fr hSs hF92 rfl
    have hPf_92 := PfC.fr hPf hF92 rfl
    have op_92 : (TwC τ92 p1 (T.1 k) ∧ XzC τ92 (xth z k) k p1 ∧ (¬ (xth z k).1.1 = 10 → (fIC τ92 p1 67).toInt = (xth z k).2.1.2.1)) ∧ p1 < cnC τ92 := by rw [hp]; exact hSs_92.2.1 k hk
    try dsimp only [Option.toList, List.cons_append, List.nil_append, s1C, s2C, dlC, kyC, Nat.beq, lkC, rcd, rno, rsw]
    intro a93 e93 ob93 fk93
    cases e93
    clear fk93 ob93
    generalize hs93 : pLC τ92 (E 4) 92 ((fLC σ (E 4) 92) &&& r92) = s93
    have hWh93 := WzC.f hWh92 hs93
    have hF93 : FrE [91, 92, 94, 217, 218, 285, 286, 287, 288, 901] σ s93 := FrE.pL2 hF92 (by decide) hs93
    have hSs_93 := SsC.fr hSs hF93 rfl
    have hPf_93 := PfC.fr hPf hF93 rfl
    have op_93 : (TwC s93 p1 (T.1 k) ∧ XzC s93 (xth z k) k p1 ∧ (¬ (xth z k).1.1 = 10 → (fIC s93 p1 67).toInt = (xth z k).2.1.2.1)) ∧ p1 < cnC s93 := by rw [hp]; exact hSs_93.2.1 k hk
    intro a94 e94 ob94
    cases e94
    have f95 : (fLC s93 (E 4) 91) = (((frA u).2).1, ((fLC σ (E 4) 92) &&& r92), ((frA u).2).2.2).1 := hWh93.1.1
    intro w96 τ96 o96 q96
    obtain ⟨r96, rfl, hr96, hWh96⟩ := q96 (N, E, A, B, V, z, (((frA u).2).1, ((fLC σ (E 4) 92) &&& r92), ((frA u).2).2.2)) ⟨rfl, hWh93⟩
    have hF96 : FrE [91, 92, 94, 217, 218, 285, 286, 287, 288, 901] σ τ96 := hF93.tr (o96.2.mo rfl)
    have hSs_96 := SsC.fr hSs hF96 rfl
    have hPf_96 := PfC.fr hPf hF96 rfl
    have op_96 : (TwC τ96 p1 (T.1 k) ∧ XzC τ96 (xth z k) k p1 ∧ (¬ (xth z k).1.1 = 10 → (fIC τ96 p1 67).toInt = (xth z k).2.1.2.1)) ∧ p1 < cnC τ96 := by rw [hp]; exact hSs_96.2.1 k hk
    try dsimp only [Option.toList, List.cons_append, List.nil_append, s1C, s2C, dlC, kyC, Nat.beq, lkC, rcd, rno, rsw]
    intro a97 e97 ob97 fk97
    cases e97
    clear fk97 ob97
    generalize hs97 : pLC τ96 (E 4) 91 ((fLC s93 (E 4) 91) &&& r96) = s97
    have hWh97 := WzC.t hWh96 hs97
    have hF97 : FrE [91, 92, 94, 217, 218, 285, 286, 287, 288, 901] σ s97 := FrE.pL2 hF96 (by decide) hs97
    have hSs_97 := SsC.fr hSs hF97 rfl
    have hPf_97 := PfC.fr hPf hF97 rfl
    have op_97 : (TwC s97 p1 (T.1 k) ∧ XzC s97 (xth z k) k p1 ∧ (¬ (xth z k).1.1 = 10 → (fIC s97 p1 67).toInt = (xth z k).2.1.2.1)) ∧ p1 < cnC s97 := by rw [hp]; exact hSs_97.2.1 k hk
    refine hB _ _ _ _ _ (fun m98 hm98 => ?_)
    dsimp only [ucgo, ucwp, ucsC, uqC, uoC, ctC, rfd, KX2_pass, KX2_pass_0, KX2_pass_72, KX2_pass_75, KX2_pass_84, KX2_pass_99, KX2_pass_114, KX2_pass_129, KX2_pass_136, KX2_pass_165, KX2_pass_173, KX2_pass_182, KX2_pass_203, KX2_pass_211, KX2_pass_220, KX2_pass_230, KX2_pass_231, KX2_pass_237, KX2_pass_243, lkC, s1C, s2C, dlC, kyC, Nat.beq, Nat.ble, rcd, rno, rsw, Nat.reduceAdd, Nat.reduceBEq, Nat.reduceDiv, List.drop, List.take, List.reverse, List.reverseAux, Int.toNat, Option.toList, List.append, List.cons_append, List.nil_append, zg60, zg61, zg67, zg91, zg92]
    try dsimp only [Qz_pass]
    have hfin : paW (xth z k) (T.1 k) u = (((fLC s93 (E 4) 91) &&& r96), ((frA (((frA u).2).1, ((fLC σ (E 4) 92) &&& r92), ((frA u).2).2.2)).2).2) := by
      subst hr96
      subst hr92
      rw [pa_8 (by omega)]
      unfold andT andF
      simp only [f95, f91, frA_f, frA_t]
    exact fun τ9 h9 => ⟨rfl, by rw [hfin]; exact hWh97.we h9⟩
  have g88 : ¬ ((fIC σ p1 60) : Int32).toInt = 8 := h88
  refine ⟨fun h99 => ?_, fun h99 => ?_⟩
  · have g99 : ((fIC σ p1 60) : Int32).toInt = 9 := h99
    refine hB _ _ _ _ _ (fun m100 hm100 => ?_)
    dsimp only [ucgo, ucwp, ucsC, uqC, uoC, ctC, rfd, KX2_pass, KX2_pass_0, KX2_pass_72, KX2_pass_75, KX2_pass_84, KX2_pass_99, KX2_pass_114, KX2_pass_129, KX2_pass_136, KX2_pass_165, KX2_pass_173, KX2_pass_182, KX2_pass_203, KX2_pass_211, KX2_pass_220, KX2_pass_230, KX2_pass_231, KX2_pass_237, KX2_pass_243, lkC, s1C, s2C, dlC, kyC, Nat.beq, Nat.ble, rcd, rno, rsw, Nat.reduceAdd, Nat.reduceBEq, Nat.reduceDiv, List.drop, List.take, List.reverse, List.reverseAux, Int.toNat, Option.toList, List.append, List.cons_append, List.nil_append, zg60, zg61, zg67, zg91, zg92]
    intro a101 e101 ob101
    cases e101
    have f102 : (fIC σ p1 67).toInt = (xth z k).2.1.2.1 := op.1.2.2 (by omega)
    refine ⟨fun h103 => ?_, fun h103 => ?_⟩
    · have g103 := ltI (x := (fIC σ p1 67)) (y := 0) h103
      have z0_ : (0 : Int32).toInt = 0 := rfl
      refine hB _ _ _ _ _ (fun m104 hm104 => ?_)
      dsimp only [ucgo, ucwp, ucsC, uqC, uoC, ctC, rfd, KX2_pass, KX2_pass_0, KX2_pass_72, KX2_pass_75, KX2_pass_84, KX2_pass_99, KX2_pass_114, KX2_pass_129, KX2_pass_136, KX2_pass_165, KX2_pass_173, KX2_pass_182, KX2_pass_203, KX2_pass_211, KX2_pass_220, KX2_pass_230, KX2_pass_231, KX2_pass_237, KX2_pass_243, lkC, s1C, s2C, dlC, kyC, Nat.beq, Nat.ble, rcd, rno, rsw, Nat.reduceAdd, Nat.reduceBEq, Nat.reduceDiv, List.drop, List.take, List.reverse, List.reverseAux, Int.toNat, Option.toList, List.append, List.cons_append, List.nil_append, zg60, zg61, zg67, zg91, zg92]
      refine hB _ _ _ _ _ (fun m105 hm105 => ?_)
      dsimp only [ucgo, ucwp, ucsC, uqC, uoC, ctC, rfd, KX2_pass, KX2_pass_0, KX2_pass_72, KX2_pass_75, KX2_pass_84, KX2_pass_99, KX2_pass_114, KX2_pass_129, KX2_pass_136, KX2_pass_165, KX2_pass_173, KX2_pass_182, KX2_pass_203, KX2_pass_211, KX2_pass_220, KX2_pass_230, KX2_pass_231, KX2_pass_237, KX2_pass_243, lkC, s1C, s2C, dlC, kyC, Nat.beq, Nat.ble, rcd, rno, rsw, Nat.reduceAdd, Nat.reduceBEq, Nat.reduceDiv, List.drop, List.take, List.reverse, List.reverseAux, Int.toNat, Option.toList, List.append, List.cons_append, List.nil_append, zg60, zg61, zg67, zg91, zg92]
      intro w106 τ106 o106 q106
      obtain ⟨rfl, hWh106⟩ := q106 (N, E, A, B, V, z, T, ms, nm, u, k) ⟨_, _, rfl, hSs, hPf, hWh, hk, hp⟩
      have hF106 : FrE [91, 92, 94, 217, 218, 285, 286, 287, 288, 901] σ τ106 := FrE.mo o106.2 rfl
      have hSs_106 := SsC.fr hSs hF106 rfl
      have hPf_106 := PfC.fr hPf hF106 rfl
      have op_106 : (TwC τ106 p1 (T.1 k) ∧ XzC τ106 (xth z k) k p1 ∧ (¬ (xth z k).1.1 = 10 → (fIC τ106 p1 67).toInt = (xth z k).2.1.2.1)) ∧ p1 < cnC τ106 := by rw [hp]; exact hSs_106.2.1 k hk
      try dsimp only [Option.toList, List.cons_append, List.nil_append, s1C, s2C, dlC, kyC, Nat.beq, lkC, rcd, rno, rsw]
      refine hB _ _ _ _ _ (fun m107 hm107 => ?_)
      dsimp only [ucgo, ucwp, ucsC, uqC, uoC, ctC, rfd, KX2_pass, KX2_pass_0, KX2_pass_72, KX2_pass_75, KX2_pass_84, KX2_pass_99, KX2_pass_114, KX2_pass_129, KX2_pass_136, KX2_pass_165, KX2_pass_173, KX2_pass_182, KX2_pass_203, KX2_pass_211, KX2_pass_220, KX2_pass_230, KX2_pass_231, KX2_pass_237, KX2_pass_243, lkC, s1C, s2C, dlC, kyC, Nat.beq, Nat.ble, rcd, rno, rsw, Nat.reduceAdd, Nat.reduceBEq, Nat.reduceDiv, List.drop, List.take, List.reverse, List.reverseAux, Int.toNat, Option.toList, List.append, List.cons_append, List.nil_append, zg60, zg61, zg67, zg91, zg92]
      try dsimp only [Qz_pass]
      have hfin : paW (xth z k) (T.1 k) u = jnT (T.1 k) (Int64.ofNat ((0 : Fin 2) : Nat)) u := by
        rw [pa_9 (by omega), if_pos (by omega)]
        try rfl
      exact fun τ9 h9 => ⟨rfl, by rw [hfin]; exact hWh106.we h9⟩
    · have g103 := nltI (x := (fIC σ p1 67)) (y := 0) h103
      have z0_ : (0 : Int32).toInt = 0 := rfl
      refine hB _ _ _ _ _ (fun m108 hm108 => ?_)
      dsimp only [ucgo, ucwp, ucsC, uqC, uoC, ctC, rfd, KX2_pass, KX2_pass_0, KX2_pass_72, KX2_pass_75, KX2_pass_84, KX2_pass_99, KX2_pass_114, KX2_pass_129, KX2_pass_136, KX2_pass_165, KX2_pass_173, KX2_pass_182, KX2_pass_203, KX2_pass_211, KX2_pass_220, KX2_pass_230, KX2_pass_231, KX2_pass_237, KX2_pass_243, lkC, s1C, s2C, dlC, kyC, Nat.beq, Nat.ble, rcd, rno, rsw, Nat.reduceAdd, Nat.reduceBEq, Nat.reduceDiv, List.drop, List.take, List.reverse, List.reverseAux, Int.toNat, Option.toList, List.append, List.cons_append, List.nil_append, zg60, zg61, zg67, zg91, zg92]
      intro a109 e109 ob109
      cases e109
      have f110 : (fIC σ p1 67).toInt = (xth z k).2.1.2.1 := op.1.2.2 (by omega)
      intro w111 τ111 o111 q111
      obtain ⟨r111, rfl, hr111, rfl⟩ := q111 (N, E, A, B, V, z) ⟨_, rfl⟩
      rw [show ((fIC σ p1 67) : Int32).toInt = (xth z k).2.1.2.1 by omega] at hr111
      try dsimp only [Option.toList, List.cons_append, List.nil_append, s1C, s2C, dlC, kyC, Nat.beq, lkC, rcd, rno, rsw]
      refine hB _ _ _ _ _ (fun m112 hm112 => ?_)
      dsimp only [ucgo, ucwp, ucsC, uqC, uoC, ctC, rfd, KX2_pass, KX2_pass_0, KX2_pass_72, KX2_pass_75, KX2_pass_84, KX2_pass_99, KX2_pass_114, KX2_pass_129, KX2_pass_136, KX2_pass_165, KX2_pass_173, KX2_pass_182, KX2_pass_203, KX2_pass_211, KX2_pass_220, KX2_pass_230, KX2_pass_231, KX2_pass_237, KX2_pass_243, lkC, s1C, s2C, dlC, kyC, Nat.beq, Nat.ble, rcd, rno, rsw, Nat.reduceAdd, Nat.reduceBEq, Nat.reduceDiv, List.drop, List.take, List.reverse, List.reverseAux, Int.toNat, Option.toList, List.append, List.cons_append, List.nil_append, zg60, zg61, zg67, zg91, zg92]
      intro w113 τ113 o113 q113
      obtain ⟨rfl, hWh113⟩ := q113 (N, E, A, B, V, z, T, ms, nm, u, k) ⟨_, _, rfl, hSs, hPf, hWh, hk, hp⟩
      have hF113 : FrE [91, 92, 94, 217, 218, 285, 286, 287, 288, 901] σ τ113 := FrE.mo o113.2 rfl
      have hSs_113 := SsC.fr hSs hF113 rfl
      have hPf_113 := PfC.fr hPf hF113 rfl
      have op_113 : (TwC τ113 p1 (T.1 k) ∧ XzC τ113 (xth z k) k p1 ∧ (¬ (xth z k).1.1 = 10 → (fIC τ113 p1 67).toInt = (xth z k).2.1.2.1)) ∧ p1 < cnC τ113 := by rw [hp]; exact hSs_113.2.1 k hk
      try dsimp only [Option.toList, List.cons_append, List.nil_append, s1C, s2C, dlC, kyC, Nat.beq, lkC, rcd, rno, rsw]
      refine hB _ _ _ _ _ (fun m114 hm114 => ?_)
      dsimp only [ucgo, ucwp, ucsC, uqC, uoC, ctC, rfd, KX2_pass, KX2_pass_0, KX2_pass_72, KX2_pass_75, KX2_pass_84, KX2_pass_99, KX2_pass_114, KX2_pass_129, KX2_pass_136, KX2_pass_165, KX2_pass_173, KX2_pass_182, KX2_pass_203, KX2_pass_211, KX2_pass_220, KX2_pass_230, KX2_pass_231, KX2_pass_237, KX2_pass_243, lkC, s1C, s2C, dlC, kyC, Nat.beq, Nat.ble, rcd, rno, rsw, Nat.reduceAdd, Nat.reduceBEq, Nat.reduceDiv, List.drop, List.take, List.reverse, List.reverseAux, Int.toNat, Option.toList, List.append, List.cons_append, List.nil_append, zg60, zg61, zg67, zg91, zg92]
      try dsimp only [Qz_pass]
      have hfin : paW (xth z k) (T.1 k) u = jnT (T.1 k) r111 u := by
        rw [pa_9 (by omega), if_neg (by omega), ← hr111]
        try rfl
      exact fun τ9 h9 => ⟨rfl, by rw [hfin]; exact hWh113.we h9⟩
  have g99 : ¬ ((fIC σ p1 60) : Int32).toInt = 9 := h99
  refine ⟨fun h115 => ?_, fun h115 => ?_⟩
  · have g115 : ((fIC σ p1 60) : Int32).toInt = 10 := h115
    refine hB _ _ _ _ _ (fun m116 hm116 => ?_)
    dsimp only [ucgo, ucwp, ucsC, uqC, uoC, ctC, rfd, KX2_pass, KX2_pass_0, KX2_pass_72, KX2_pass_75, KX2_pass_84, KX2_pass_99, KX2_pass_114, KX2_pass_129, KX2_pass_136, KX2_pass_165, KX2_pass_173, KX2_pass_182, KX2_pass_203, KX2_pass_211, KX2_pass_220, KX2_pass_230, KX2_pass_231, KX2_pass_237, KX2_pass_243, lkC, s1C, s2C, dlC, kyC, Nat.beq, Nat.ble, rcd, rno, rsw, Nat.reduceAdd, Nat.reduceBEq, Nat.reduceDiv, List.drop, List.take, List.reverse, List.reverseAux, Int.toNat, Option.toList, List.append, List.cons_append, List.nil_append, zg60, zg61, zg67, zg91, zg92]
    intro w117 τ117 o117 q117
    obtain ⟨rfl, hWh117⟩ := q117 (N, E, A, B, V, z, T, ms, nm, u, k) ⟨_, _, rfl, hSs, hPf, hWh, hk, hp⟩
    have hF117 : FrE [91, 92, 94, 217, 218, 285, 286, 287, 288, 901] σ τ117 := FrE.mo o117.2 rfl
    have hSs_117 := SsC.fr hSs hF117 rfl
    have hPf_117 := PfC.fr hPf hF117 rfl
    have op_117 : (TwC τ117 p1 (T.1 k) ∧ XzC τ117 (xth z k) k p1 ∧ (¬ (xth z k).1.1 = 10 → (fIC τ117 p1 67).toInt = (xth z k).2.1.2.1)) ∧ p1 < cnC τ117 := by rw [hp]; exact hSs_117.2.1 k hk
    try dsimp only [Option.toList, List.cons_append, List.nil_append, s1C, s2C, dlC, kyC, Nat.beq, lkC, rcd, rno, rsw]
    refine hB _ _ _ _ _ (fun m118 hm118 => ?_)
    dsimp only [ucgo, ucwp, ucsC, uqC, uoC, ctC, rfd, KX2_pass, KX2_pass_0, KX2_pass_72, KX2_pass_75, KX2_pass_84, KX2_pass_99, KX2_pass_114, KX2_pass_129, KX2_pass_136, KX2_pass_165, KX2_pass_173, KX2_pass_182, KX2_pass_203, KX2_pass_211, KX2_pass_220, KX2_pass_230, KX2_pass_231, KX2_pass_237, KX2_pass_243, lkC, s1C, s2C, dlC, kyC, Nat.beq, Nat.ble, rcd, rno, rsw, Nat.reduceAdd, Nat.reduceBEq, Nat.reduceDiv, List.drop, List.take, List.reverse, List.reverseAux, Int.toNat, Option.toList, List.append, List.cons_append, List.nil_append, zg60, zg61, zg67, zg91, zg92]
    try dsimp only [Qz_pass]
    have hfin : paW (xth z k) (T.1 k) u = jnT (T.1 k) (Int64.ofNat ((0 : Fin 2) : Nat)) u := by
      rw [pa_o (by omega)]
      rfl
    exact fun τ9 h9 => ⟨rfl, by rw [hfin]; exact hWh117.we h9⟩
  have g115 : ¬ ((fIC σ p1 60) : Int32).toInt = 10 := h115
  refine ⟨fun h119 => ?_, fun h119 => ?_⟩
  · have g119 : ((fIC σ p1 60) : Int32).toInt = 11 := h119
    refine hB _ _ _ _ _ (fun m120 hm120 => ?_)
    dsimp only [ucgo, ucwp, ucsC, uqC, uoC, ctC, rfd, KX2_pass, KX2_pass_0, KX2_pass_72, KX2_pass_75, KX2_pass_84, KX2_pass_99, KX2_pass_114, KX2_pass_129, KX2_pass_136, KX2_pass_165, KX2_pass_173, KX2_pass_182, KX2_pass_203, KX2_pass_211, KX2_pass_220, KX2_pass_230, KX2_pass_231, KX2_pass_237, KX2_pass_243, lkC, s1C, s2C, dlC, kyC, Nat.beq, Nat.ble, rcd, rno, rsw, Nat.reduceAdd, Nat.reduceBEq, Nat.reduceDiv, List.drop, List.take, List.reverse, List.reverseAux, Int.toNat, Option.toList, List.append, List.cons_append, List.nil_append, zg60, zg61, zg67, zg91, zg92]
    intro a121 e121 ob121
    cases e121
    have f122 : (fIC σ p1 61).toInt = (xth z k).1.2.1 := op.1.2.1.2.1
    have c123 : (Int32.ofInt 21).toInt = 21 := by decide
    refine ⟨fun h124 => ?_, fun h124 => ?_⟩
    · have g124 := (neI (x := (fIC σ p1 61)) (y := (Int32.ofInt 21)) h124 : ¬ ((fIC σ p1 61) : Int32).toInt = ((Int32.ofInt 21) : Int32).toInt)
      refine hB _ _ _ _ _ (fun m125 hm125 => ?_)
      dsimp only [ucgo, ucwp, ucsC, uqC, uoC, ctC, rfd, KX2_pass, KX2_pass_0, KX2_pass_72, KX2_pass_75, KX2_pass_84, KX2_pass_99, KX2_pass_114, KX2_pass_129, KX2_pass_136, KX2_pass_165, KX2_pass_173, KX2_pass_182, KX2_pass_203, KX2_pass_211, KX2_pass_220, KX2_pass_230, KX2_pass_231, KX2_pass_237, KX2_pass_243, lkC, s1C, s2C, dlC, kyC, Nat.beq, Nat.ble, rcd, rno, rsw, Nat.reduceAdd, Nat.reduceBEq, Nat.reduceDiv, List.drop, List.take, List.reverse, List.reverseAux, Int.toNat, Option.toList, List.append, List.cons_append, List.nil_append, zg60, zg61, zg67, zg91, zg92]
      intro a126 e126 ob126
      cases e126
      have f127 : (fLC σ (E 4) 91) = u.1 := hWh.1.1
      intro a128 e128 ob128
      cases e128
      have f129 : (fLC σ (E 4) 92) = u.2.1 := hWh.1.2.1
      intro w130 τ130 o130 q130
      obtain ⟨rfl, hWh130⟩ := q130 (N, E, A, B, V, z, T, ms, nm, u) ⟨_, _, rfl, hSs, hPf, hWh⟩
      rw [f127, f129] at hWh130
      have hF130 : FrE [91, 92, 94, 217, 218, 285, 286, 287, 288, 901] σ τ130 := FrE.mo o130.2 rfl
      have hSs_130 := SsC.fr hSs hF130 rfl
      have hPf_130 := PfC.fr hPf hF130 rfl
      have op_130 : (TwC τ130 p1 (T.1 k) ∧ XzC τ130 (xth z k) k p1 ∧ (¬ (xth z k).1.1 = 10 → (fIC τ130 p1 67).toInt = (xth z k).2.1.2.1)) ∧ p1 < cnC τ130 := by rw [hp]; exact hSs_130.2.1 k hk
      try dsimp only [Option.toList, List.cons_append, List.nil_append, s1C, s2C, dlC, kyC, Nat.beq, lkC, rcd, rno, rsw]
      refine hB _ _ _ _ _ (fun m131 hm131 => ?_)
      dsimp only [ucgo, ucwp, ucsC, uqC, uoC, ctC, rfd, KX2_pass, KX2_pass_0, KX2_pass_72, KX2_pass_75, KX2_pass_84, KX2_pass_99, KX2_pass_114, KX2_pass_129, KX2_pass_136, KX2_pass_165, KX2_pass_173, KX2_pass_182, KX2_pass_203, KX2_pass_211, KX2_pass_220, KX2_pass_230, KX2_pass_231, KX2_pass_237, KX2_pass_243, lkC, s1C, s2C, dlC, kyC, Nat.beq, Nat.ble, rcd, rno, rsw, Nat.reduceAdd, Nat.reduceBEq, Nat.reduceDiv, List.drop, List.take, List.reverse, List.reverseAux, Int.toNat, Option.toList, List.append, List.cons_append, List.nil_append, zg60, zg61, zg67, zg91, zg92]
      try dsimp only [Qz_pass]
      have hfin : paW (xth z k) (T.1 k) u = fkW u.1 u.2.1 u := by
        rw [pa_11 (by omega), if_neg (by omega)]
      exact fun τ9 h9 => ⟨rfl, by rw [hfin]; exact hWh130.we h9⟩
    · have g124 := (eqI (x := (fIC σ p1 61)) (y := (Int32.ofInt 21)) h124 : ((fIC σ p1 61) : Int32).toInt = ((Int32.ofInt 21) : Int32).toInt)
      refine hB _ _ _ _ _ (fun m132 hm132 => ?_)
      dsimp only [ucgo, ucwp, ucsC, uqC, uoC, ctC, rfd, KX2_pass, KX2_pass_0, KX2_pass_72, KX2_pass_75, KX2_pass_84, KX2_pass_99, KX2_pass_114, KX2_pass_129, KX2_pass_136, KX2_pass_165, KX2_pass_173, KX2_pass_182, KX2_pass_203, KX2_pass_211, KX2_pass_220, KX2_pass_230, KX2_pass_231, KX2_pass_237, KX2_pass_243, lkC, s1C, s2C, dlC, kyC, Nat.beq, Nat.ble, rcd, rno, rsw, Nat.reduceAdd, Nat.reduceBEq, Nat.reduceDiv, List.drop, List.take, List.reverse, List.reverseAux, Int.toNat, Option.toList, List.append, List.cons_append, List.nil_append, zg60, zg61, zg67, zg91, zg92]
      intro a133 e133 ob133
      cases e133
      have f134 : (fLC σ (E 4) 92) = u.2.1 := hWh.1.2.1
      intro a135 e135 ob135
      cases e135
      have f136 : (fLC σ (E 4) 91) = u.1 := hWh.1.1
      intro w137 τ137 o137 q137
      obtain ⟨rfl, hWh137⟩ := q137 (N, E, A, B, V, z, T, ms, nm, u) ⟨_, _, rfl, hSs, hPf, hWh⟩
      rw [f134, f136] at hWh137
      have hF137 : FrE [91, 92, 94, 217, 218, 285, 286, 287, 288, 901] σ τ137 := FrE.mo o137.2 rfl
      have hSs_137 := SsC.fr hSs hF137 rfl
      have hPf_137 := PfC.fr hPf hF137 rfl
      have op_137 : (TwC τ137 p1 (T.1 k) ∧ XzC τ137 (xth z k) k p1 ∧ (¬ (xth z k).1.1 = 10 → (fIC τ137 p1 67).toInt = (xth z k).2.1.2.1)) ∧ p1 < cnC τ137 := by rw [hp]; exact hSs_137.2.1 k hk
      try dsimp only [Option.toList, List.cons_append, List.nil_append, s1C, s2C, dlC, kyC, Nat.beq, lkC, rcd, rno, rsw]
      refine hB _ _ _ _ _ (fun m138 hm138 => ?_)
      dsimp only [ucgo, ucwp, ucsC, uqC, uoC, ctC, rfd, KX2_pass, KX2_pass_0, KX2_pass_72, KX2_pass_75, KX2_pass_84, KX2_pass_99, KX2_pass_114, KX2_pass_129, KX2_pass_136, KX2_pass_165, KX2_pass_173, KX2_pass_182, KX2_pass_203, KX2_pass_211, KX2_pass_220, KX2_pass_230, KX2_pass_231, KX2_pass_237, KX2_pass_243, lkC, s1C, s2C, dlC, kyC, Nat.beq, Nat.ble, rcd, rno, rsw, Nat.reduceAdd, Nat.reduceBEq, Nat.reduceDiv, List.drop, List.take, List.reverse, List.reverseAux, Int.toNat, Option.toList, List.append, List.cons_append, List.nil_append, zg60, zg61, zg67, zg91, zg92]
      try dsimp only [Qz_pass]
      have hfin : paW (xth z k) (T.1 k) u = fkW u.2.1 u.1 u := by
        rw [pa_11 (by omega), if_pos (by omega)]
      exact fun τ9 h9 => ⟨rfl, by rw [hfin]; exact hWh137.we h9⟩
  have g119 : ¬ ((fIC σ p1 60) : Int32).toInt = 11 := h119
  refine ⟨fun h139 => ?_, fun h139 => ?_⟩
  · have g139 : ((fIC σ p1 60) : Int32).toInt = 12 := h139
    refine hB _ _ _ _ _ (fun m140 hm140 => ?_)
    dsimp only [ucgo, ucwp, ucsC, uqC, uoC, ctC, rfd, KX2_pass, KX2_pass_0, KX2_pass_72, KX2_pass_75, KX2_pass_84, KX2_pass_99, KX2_pass_114, KX2_pass_129, KX2_pass_136, KX2_pass_165, KX2_pass_173, KX2_pass_182, KX2_pass_203, KX2_pass_211, KX2_pass_220, KX2_pass_230, KX2_pass_231, KX2_pass_237, KX2_pass_243, lkC, s1C, s2C, dlC, kyC, Nat.beq, Nat.ble, rcd, rno, rsw, Nat.reduceAdd, Nat.reduceBEq, Nat.reduceDiv, List.drop, List.take, List.reverse, List.reverseAux, Int.toNat, Option.toList, List.append, List.cons_append, List.nil_append, zg60, zg61, zg67, zg91, zg92]
    intro a141 e141 ob141
    cases e141
    have f142 : (fLC σ (E 4) 92) = u.2.1 := hWh.1.2.1
    intro a143 e143 ob143
    cases e143
    have f144 : (fLC σ (E 4) 91) = u.1 := hWh.1.1
    intro w145 τ145 o145 q145
    obtain ⟨rfl, hWh145⟩ := q145 (N, E, A, B, V, z, T, ms, nm, u) ⟨_, _, rfl, hSs, hPf, hWh⟩
    rw [f142, f144] at hWh145
    have hF145 : FrE [91, 92, 94, 217, 218, 285, 286, 287, 288, 901] σ τ145 := FrE.mo o145.2 rfl
    have hSs_145 := SsC.fr hSs hF145 rfl
    have hPf_145 := PfC.fr hPf hF145 rfl
    have op_145 : (TwC τ145 p1 (T.1 k) ∧ XzC τ145 (xth z k) k p1 ∧ (¬ (xth z k).1.1 = 10 → (fIC τ145 p1 67).toInt = (xth z k).2.1.2.1)) ∧ p1 < cnC τ145 := by rw [hp]; exact hSs_145.2.1 k hk
    try dsimp only [Option.toList, List.cons_append, List.nil_append, s1C, s2C, dlC, kyC, Nat.beq, lkC, rcd, rno, rsw]
    refine hB _ _ _ _ _ (fun m146 hm146 => ?_)
    dsimp only [ucgo, ucwp, ucsC, uqC, uoC, ctC, rfd, KX2_pass, KX2_pass_0, KX2_pass_72, KX2_pass_75, KX2_pass_84, KX2_pass_99, KX2_pass_114, KX2_pass_129, KX2_pass_136, KX2_pass_165, KX2_pass_173, KX2_pass_182, KX2_pass_203, KX2_pass_211, KX2_pass_220, KX2_pass_230, KX2_pass_231, KX2_pass_237, KX2_pass_243, lkC, s1C, s2C, dlC, kyC, Nat.beq, Nat.ble, rcd, rno, rsw, Nat.reduceAdd, Nat.reduceBEq, Nat.reduceDiv, List.drop, List.take, List.reverse, List.reverseAux, Int.toNat, Option.toList, List.append, List.cons_append, List.nil_append, zg60, zg61, zg67, zg91, zg92]
    try dsimp only [Qz_pass]
    have hfin : paW (xth z k) (T.1 k) u = fkW u.2.1 u.1 u := by
      rw [pa_12 (by omega)]
    exact fun τ9 h9 => ⟨rfl, by rw [hfin]; exact hWh145.we h9⟩
  have g139 : ¬ ((fIC σ p1 60) : Int32).toInt = 12 := h139
  refine ⟨fun h147 => ?_, fun h147 => ?_⟩
  · have g147 : ((fIC σ p1 60) : Int32).toInt = 13 := h147
    refine hB _ _ _ _ _ (fun m148 hm148 => ?_)
    dsimp only [ucgo, ucwp, ucsC, uqC, uoC, ctC, rfd, KX2_pass, KX2_pass_0, KX2_pass_72, KX2_pass_75, KX2_pass_84, KX2_pass_99, KX2_pass_114, KX2_pass_129, KX2_pass_136, KX2_pass_165, KX2_pass_173, KX2_pass_182, KX2_pass_203, KX2_pass_211, KX2_pass_220, KX2_pass_230, KX2_pass_231, KX2_pass_237, KX2_pass_243, lkC, s1C, s2C, dlC, kyC, Nat.beq, Nat.ble, rcd, rno, rsw, Nat.reduceAdd, Nat.reduceBEq, Nat.reduceDiv, List.drop, List.take, List.reverse, List.reverseAux, Int.toNat, Option.toList, List.append, List.cons_append, List.nil_append, zg60, zg61, zg67, zg91, zg92]
    intro w149 τ149 o149 q149
    obtain ⟨rfl, hWh149⟩ := q149 (N, E, A, B, V, z, T, ms, nm, u) ⟨rfl, hSs, hPf, hWh⟩
    have hF149 : FrE [91, 92, 94, 217, 218, 285, 286, 287, 288, 901] σ τ149 := FrE.mo o149.2 rfl
    have hSs_149 := SsC.fr hSs hF149 rfl
    have hPf_149 := PfC.fr hPf hF149 rfl
    have op_149 : (TwC τ149 p1 (T.1 k) ∧ XzC τ149 (xth z k) k p1 ∧ (¬ (xth z k).1.1 = 10 → (fIC τ149 p1 67).toInt = (xth z k).2.1.2.1)) ∧ p1 < cnC τ149 := by rw [hp]; exact hSs_149.2.1 k hk
    try dsimp only [Option.toList, List.cons_append, List.nil_append, s1C, s2C, dlC, kyC, Nat.beq, lkC, rcd, rno, rsw]
    refine hB _ _ _ _ _ (fun m150 hm150 => ?_)
    dsimp only [ucgo, ucwp, ucsC, uqC, uoC, ctC, rfd, KX2_pass, KX2_pass_0, KX2_pass_72, KX2_pass_75, KX2_pass_84, KX2_pass_99, KX2_pass_114, KX2_pass_129, KX2_pass_136, KX2_pass_165, KX2_pass_173, KX2_pass_182, KX2_pass_203, KX2_pass_211, KX2_pass_220, KX2_pass_230, KX2_pass_231, KX2_pass_237, KX2_pass_243, lkC, s1C, s2C, dlC, kyC, Nat.beq, Nat.ble, rcd, rno, rsw, Nat.reduceAdd, Nat.reduceBEq, Nat.reduceDiv, List.drop, List.take, List.reverse, List.reverseAux, Int.toNat, Option.toList, List.append, List.cons_append, List.nil_append, zg60, zg61, zg67, zg91, zg92]
    try dsimp only [Qz_pass]
    have hfin : paW (xth z k) (T.1 k) u = elW u := by
      rw [pa_13 (by omega)]
    exact fun τ9 h9 => ⟨rfl, by rw [hfin]; exact hWh149.we h9⟩
  have g147 : ¬ ((fIC σ p1 60) : Int32).toInt = 13 := h147
  refine ⟨fun h151 => ?_, fun h151 => ?_⟩
  · have g151 : ((fIC σ p1 60) : Int32).toInt = 14 := h151
    refine hB _ _ _ _ _ (fun m152 hm152 => ?_)
    dsimp only [ucgo, ucwp, ucsC, uqC, uoC, ctC, rfd, KX2_pass, KX2_pass_0, KX2_pass_72, KX2_pass_75, KX2_pass_84, KX2_pass_99, KX2_pass_114, KX2_pass_129, KX2_pass_136, KX2_pass_165, KX2_pass_173, KX2_pass_182, KX2_pass_203, KX2_pass_211, KX2_pass_220, KX2_pass_230, KX2_pass_231, KX2_pass_237, KX2_pass_243, lkC, s1C, s2C, dlC, kyC, Nat.beq, Nat.ble, rcd, rno, rsw, Nat.reduceAdd, Nat.reduceBEq, Nat.reduceDiv, List.drop, List.take, List.reverse, List.reverseAux, Int.toNat, Option.toList, List.append, List.cons_append, List.nil_append, zg60, zg61, zg67, zg91, zg92]
    intro w153 τ153 o153 q153
    obtain ⟨rfl, hWh153⟩ := q153 (N, E, A, B, V, z, T, ms, nm, u, k) ⟨_, rfl, hSs, hPf, hWh, hk, hp, ⟨hlk (by omega), by omega⟩⟩
    have hF153 : FrE [91, 92, 94, 217, 218, 285, 286, 287, 288, 901] σ τ153 := FrE.mo o153.2 rfl
    have hSs_153 := SsC.fr hSs hF153 rfl
    have hPf_153 := PfC.fr hPf hF153 rfl
    have op_153 : (TwC τ153 p1 (T.1 k) ∧ XzC τ153 (xth z k) k p1 ∧ (¬ (xth z k).1.1 = 10 → (fIC τ153 p1 67).toInt = (xth z k).2.1.2.1)) ∧ p1 < cnC τ153 := by rw [hp]; exact hSs_153.2.1 k hk
    try dsimp only [Option.toList, List.cons_append, List.nil_append, s1C, s2C, dlC, kyC, Nat.beq, lkC, rcd, rno, rsw]
    refine hB _ _ _ _ _ (fun m154 hm154 => ?_)
    dsimp only [ucgo, ucwp, ucsC, uqC, uoC, ctC, rfd, KX2_pass, KX2_pass_0, KX2_pass_72, KX2_pass_75, KX2_pass_84, KX2_pass_99, KX2_pass_114, KX2_pass_129, KX2_pass_136, KX2_pass_165, KX2_pass_173, KX2_pass_182, KX2_pass_203, KX2_pass_211, KX2_pass_220, KX2_pass_230, KX2_pass_231, KX2_pass_237, KX2_pass_243, lkC, s1C, s2C, dlC, kyC, Nat.beq, Nat.ble, rcd, rno, rsw, Nat.reduceAdd, Nat.reduceBEq, Nat.reduceDiv, List.drop, List.take, List.reverse, List.reverseAux, Int.toNat, Option.toList, List.append, List.cons_append, List.nil_append, zg60, zg61, zg67, zg91, zg92]
    try dsimp only [Qz_pass]
    have hfin : paW (xth z k) (T.1 k) u = tkW (T.1 k) (xth z k).2.1.2.1 u := by
      rw [pa_2 (by omega)]
    exact fun τ9 h9 => ⟨rfl, by rw [hfin]; exact hWh153.we h9⟩
  have g151 : ¬ ((fIC σ p1 60) : Int32).toInt = 14 := h151
  refine hB _ _ _ _ _ (fun m155 hm155 => ?_)
  dsimp only [ucgo, ucwp, ucsC, uqC, uoC, ctC, rfd, KX2_pass, KX2_pass_0, KX2_pass_72, KX2_pass_75, KX2_pass_84, KX2_pass_99, KX2_pass_114, KX2_pass_129, KX2_pass_136, KX2_pass_165, KX2_pass_173, KX2_pass_182, KX2_pass_203, KX2_pass_211, KX2_pass_220, KX2_pass_230, KX2_pass_231, KX2_pass_237, KX2_pass_243, lkC, s1C, s2C, dlC, kyC, Nat.beq, Nat.ble, rcd, rno, rsw, Nat.reduceAdd, Nat.reduceBEq, Nat.reduceDiv, List.drop, List.take, List.reverse, List.reverseAux, Int.toNat, Option.toList, List.append, List.cons_append, List.nil_append, zg60, zg61, zg67, zg91, zg92]
  intro w156 τ156 o156 q156
  obtain ⟨rfl, hWh156⟩ := q156 (N, E, A, B, V, z, T, ms, nm, u, k) ⟨_, _, rfl, hSs, hPf, hWh, hk, hp⟩
  have hF156 : FrE [91, 92, 94, 217, 218, 285, 286, 287, 288, 901] σ τ156 := FrE.mo o156.2 rfl
  have hSs_156 := SsC.fr hSs hF156 rfl
  have hPf_156 := PfC.fr hPf hF156 rfl
  have op_156 : (TwC τ156 p1 (T.1 k) ∧ XzC τ156 (xth z k) k p1 ∧ (¬ (xth z k).1.1 = 10 → (fIC τ156 p1 67).toInt = (xth z k).2.1.2.1)) ∧ p1 < cnC τ156 := by rw [hp]; exact hSs_156.2.1 k hk
  try dsimp only [Option.toList, List.cons_append, List.nil_append, s1C, s2C, dlC, kyC, Nat.beq, lkC, rcd, rno, rsw]
  refine hB _ _ _ _ _ (fun m157 hm157 => ?_)
  dsimp only [ucgo, ucwp, ucsC, uqC, uoC, ctC, rfd, KX2_pass, KX2_pass_0, KX2_pass_72, KX2_pass_75, KX2_pass_84, KX2_pass_99, KX2_pass_114, KX2_pass_129, KX2_pass_136, KX2_pass_165, KX2_pass_173, KX2_pass_182, KX2_pass_203, KX2_pass_211, KX2_pass_220, KX2_pass_230, KX2_pass_231, KX2_pass_237, KX2_pass_243, lkC, s1C, s2C, dlC, kyC, Nat.beq, Nat.ble, rcd, rno, rsw, Nat.reduceAdd, Nat.reduceBEq, Nat.reduceDiv, List.drop, List.take, List.reverse, List.reverseAux, Int.toNat, Option.toList, List.append, List.cons_append, List.nil_append, zg60, zg61, zg67, zg91, zg92]
  try dsimp only [Qz_pass]
  have hfin : paW (xth z k) (T.1 k) u = jnT (T.1 k) (Int64.ofNat ((0 : Fin 2) : Nat)) u := by
    rw [pa_o (by omega)]
    rfl
  exact fun τ9 h9 => ⟨rfl, by rw [hfin]; exact hWh156.we h9⟩
theorem wz_pass : ∀ (L : Nat) (As : List AvC) (σ : CsC) (w : Option AvC) (τ : CsC), EvF L 40 As σ w τ → Uz_pass As σ w τ := by
  intro L
  cases L with
  | zero => exact fun _ _ _ _ h => h.elim
  | succ L => exact fun As σ w τ h y hy => EvF.us (cs := [44, 45, 43, 47, 222, 41, 42]) (pz_pass y) rfl (List.forall_mem_cons.2 ⟨wz_takeValue L, List.forall_mem_cons.2 ⟨wz_join L, List.forall_mem_cons.2 ⟨wz_passChain L, List.forall_mem_cons.2 ⟨wz_fromAside L, List.forall_mem_cons.2 ⟨wz_bitq L, List.forall_mem_cons.2 ⟨wz_fork L, List.forall_mem_cons.2 ⟨wz_passElse L, fun _ h => absurd h List.not_mem_nil⟩⟩⟩⟩⟩⟩⟩) h hy
