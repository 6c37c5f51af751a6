/-! an S, a row -/
/-- what stands in a row's loop -/
def RwR (N : Int → Int) (E A B V : Nat → Nat) (z : ZS) (σ υ : CsC) (Y W U : Nat → Nat) (v : ZS) (f l : Int) (fo lo : Option Nat) : Prop := (ZC N E Y W U υ v ∧ FzC (cnC σ) (xnM z) E A Y B W V U z v σ υ) ∧ (fo = opA W f ∧ f < (snM v : Int)) ∧ (lo = opA W l ∧ l < (snM v : Int)) ∧ ((f < 0 ↔ l < 0) ∧ (0 ≤ l → cnC σ ≤ W l.toNat)) ∧ cnC σ ≤ cnC υ
theorem opA_0 {A : Nat → Nat} {x : Int} (h : opA A x = none) : x < 0 := Classical.byContradiction (fun q => by
  rw [opA_s (by omega)] at h
  cases h)
theorem opA_1 {A : Nat → Nat} {x : Int} {b : Nat} (h : opA A x = some b) : 0 ≤ x ∧ A x.toNat = b := by
  by_cases q : x < 0
  · rw [opA_n q] at h
    cases h
  · rw [opA_s (by omega)] at h
    exact ⟨by omega, Option.some.inj h⟩
set_option maxHeartbeats 4000000 in
theorem pz_readStatement (y : (Int → Int) × (Nat → Nat) × (Nat → Nat) × (Nat → Nat) × (Nat → Nat) × ZS × Nat) : PbC KX7_readStatement [(131, TrP, EqC 131), (125, TrP, EqC 125), (150, TrP, EqC 150), (154, TrP, EqC 154), (155, TrP, EqC 155), (156, TrP, EqC 156), (157, TrP, EqC 157), (159, TrP, EqC 159), (160, TrP, EqC 160), (152, TrP, EqC 152), (126, TrP, EqC 126), (151, TrP, EqC 151)] [(131, Uz_isTooDeep), (125, Uz_code), (150, Uz_readSimple), (154, Uz_readIf), (155, Uz_readWhile), (156, Uz_readDo), (157, Uz_readFor), (159, Uz_readSwitch), (160, Uz_readTry), (152, Uz_readExpStatement), (126, Uz_codeBehind), (151, Uz_readLabel)] (fun As σ => Pz_readStatement y As σ ∧ cnC σ ≤ 1000000 ∧ ∃ w τ, uqC quL 149 As σ w τ) (Qz_readStatement y) := by
  obtain ⟨N, E, A, B, V, z, n⟩ := y
  rintro As σ ⟨⟨p1, rfl, hZ, hd, hft⟩, hcn, _, _, hQ⟩ K hB hW n_
  have hH : HI0 σ ∧ TyC σ (E 0) 8 := hQ
  have hat := hZ.at0 hH
  have hn : 1 ≤ n := ls_n hft
  have hfs : zFt (smM N n (stM N (n - 1)) (rwM N (n - 1)) z).1 = 0 := by rw [← st_s hn]; exact hft
  have s56 : codY z.1 = 56 → smM N n (stM N (n - 1)) (rwM N (n - 1)) z = ifM N n (stM N (n - 1)) z := fun q => by
    unfold smM
    rw [if_pos q]
  have s58 : codY z.1 = 58 → smM N n (stM N (n - 1)) (rwM N (n - 1)) z = whM N n (stM N (n - 1)) z := fun q => by
    unfold smM
    rw [if_neg (by omega), if_pos q]
  have s59 : codY z.1 = 59 → smM N n (stM N (n - 1)) (rwM N (n - 1)) z = doM N n (stM N (n - 1)) z := fun q => by
    unfold smM
    rw [if_neg (by omega), if_neg (by omega), if_pos q]
  have s60 : codY z.1 = 60 → smM N n (stM N (n - 1)) (rwM N (n - 1)) z = foM2 N n (stM N (n - 1)) z := fun q => by
    unfold smM
    rw [if_neg (by omega), if_neg (by omega), if_neg (by omega), if_pos q]
  have s61 : codY z.1 = 61 → smM N n (stM N (n - 1)) (rwM N (n - 1)) z = swM N n (rwM N (n - 1)) z := fun q => by
    unfold smM
    rw [if_neg (by omega), if_neg (by omega), if_neg (by omega), if_neg (by omega), if_pos q]
  have s68 : codY z.1 = 68 → smM N n (stM N (n - 1)) (rwM N (n - 1)) z = trM N n (rwM N (n - 1)) z := fun q => by
    unfold smM
    rw [if_neg (by omega), if_neg (by omega), if_neg (by omega), if_neg (by omega), if_neg (by omega), if_pos q]
  have s80 : codY z.1 = 80 → cobY z.1 = 6 → smM N n (stM N (n - 1)) (rwM N (n - 1)) z = laM n (stM N (n - 1)) z := fun q q2 => by
    unfold smM
    rw [if_neg (by omega), if_neg (by omega), if_neg (by omega), if_neg (by omega), if_neg (by omega), if_neg (by omega), if_neg (by omega), if_neg (by omega), if_neg (by omega), if_neg (by omega), if_pos q, if_pos q2]
  have s0 : ¬ (codY z.1 = 56 ∨ codY z.1 = 58 ∨ codY z.1 = 59 ∨ codY z.1 = 60 ∨ codY z.1 = 61 ∨ codY z.1 = 68 ∨ codY z.1 = 2 ∨ codY z.1 = 4 ∨ codY z.1 = 64 ∨ codY z.1 = 65 ∨ codY z.1 = 66 ∨ codY z.1 = 67) → ¬ (codY z.1 = 80 ∧ cobY z.1 = 6) → smM N n (stM N (n - 1)) (rwM N (n - 1)) z = xsM N n z := fun q q2 => by
    unfold smM
    rw [if_neg (by omega), if_neg (by omega), if_neg (by omega), if_neg (by omega), if_neg (by omega), if_neg (by omega), if_neg (by omega), if_neg (by omega), if_neg (by omega), if_neg (by omega)]
    by_cases q3 : codY z.1 = 80
    · rw [if_pos q3, if_neg (fun q4 => q2 ⟨q3, q4⟩)]
    · rw [if_neg q3]
  change K n_ 0 [(0, .inr (.inr (some (E 0)))), (1, .inl p1)] [] σ
  refine hB _ _ _ _ _ (fun m51 hm51 => ?_)
  dsimp only [ucgo, ucwp, ucsC, uqC, uoC, ctC, rfd, KX7_readStatement, KX7_readStatement_0, KX7_readStatement_116, KX7_readStatement_122, KX7_readStatement_128, KX7_readStatement_134, KX7_readStatement_140, KX7_readStatement_146, KX7_readStatement_152, KX7_readStatement_158, KX7_readStatement_167, KX7_readStatement_176, KX7_readStatement_184, KX7_readStatement_189, lkC, s1C, s2C, dlC, kyC, Nat.beq, Nat.ble, rcd, rno, rsw, Nat.reduceAdd, Nat.reduceBEq, Nat.reduceDiv, List.drop, List.take, List.reverse, List.reverseAux, Int.toNat, Option.toList, List.append, List.cons_append, List.nil_append]
  intro w52 τ52 o52 q52
  obtain ⟨r52, rfl, hr52, rfl⟩ := q52 (N, E, A, B, V, z) ⟨_, rfl, hZ, by omega⟩
  try dsimp only [Option.toList, List.cons_append, List.nil_append, s1C, s2C, dlC, kyC, Nat.beq, lkC, rcd, rno, rsw]
  intro w53 τ53 o53 q53
  obtain ⟨c53, rfl, hc53, rfl⟩ := q53 (N, E, A, B, V, z) ⟨rfl, hZ⟩
  try dsimp only [Option.toList, List.cons_append, List.nil_append, s1C, s2C, dlC, kyC, Nat.beq, lkC, rcd, rno, rsw]
  refine ⟨fun h54 => ?_, fun h54 => ?_⟩
  · have g54 : (c53 : Int32).toInt = 2 := h54
    refine hB _ _ _ _ _ (fun m55 hm55 => ?_)
    dsimp only [ucgo, ucwp, ucsC, uqC, uoC, ctC, rfd, KX7_readStatement, KX7_readStatement_0, KX7_readStatement_116, KX7_readStatement_122, KX7_readStatement_128, KX7_readStatement_134, KX7_readStatement_140, KX7_readStatement_146, KX7_readStatement_152, KX7_readStatement_158, KX7_readStatement_167, KX7_readStatement_176, KX7_readStatement_184, KX7_readStatement_189, lkC, s1C, s2C, dlC, kyC, Nat.beq, Nat.ble, rcd, rno, rsw, Nat.reduceAdd, Nat.reduceBEq, Nat.reduceDiv, List.drop, List.take, List.reverse, List.reverseAux, Int.toNat, Option.toList, List.append, List.cons_append, List.nil_append]
    intro w56 τ56 o56 q56
    obtain ⟨A56, B56, V56, rfl, hZ56, hf56, hs56⟩ : SeQ N E A B V z (smM N n (stM N (n - 1)) (rwM N (n - 1)) z) σ w56 τ56 := q56 (N, E, A, B, V, z, n) ⟨_, rfl, hZ, by omega, by omega, (by omega), hfs⟩
    have hF56 := FzC.tr (FzC.rf (n := cnC σ) (m := xnM z) (E := E) (A := A) (B := B) (V := V) (z := z) (σ := σ)) (FzC.mo hf56 (Nat.le_refl (cnC σ)) ((FzC.rf (n := cnC σ) (m := xnM z) (E := E) (A := A) (B := B) (V := V) (z := z) (σ := σ))).2.2.1.1.1)
    have hle56 : cnC σ ≤ cnC τ56 := Nat.le_trans (Nat.le_refl (cnC σ)) (hf56).1
    try dsimp only [Option.toList, List.cons_append, List.nil_append, s1C, s2C, dlC, kyC, Nat.beq, lkC, rcd, rno, rsw]
    try dsimp only [Qz_readStatement]
    rw [st_s hn]
    exact ⟨_, _, _, rfl, hZ56, hF56, hs56⟩
  have g54 : ¬ (c53 : Int32).toInt = 2 := h54
  refine ⟨fun h57 => ?_, fun h57 => ?_⟩
  · have g57 : (c53 : Int32).toInt = 4 := h57
    refine hB _ _ _ _ _ (fun m58 hm58 => ?_)
    dsimp only [ucgo, ucwp, ucsC, uqC, uoC, ctC, rfd, KX7_readStatement, KX7_readStatement_0, KX7_readStatement_116, KX7_readStatement_122, KX7_readStatement_128, KX7_readStatement_134, KX7_readStatement_140, KX7_readStatement_146, KX7_readStatement_152, KX7_readStatement_158, KX7_readStatement_167, KX7_readStatement_176, KX7_readStatement_184, KX7_readStatement_189, lkC, s1C, s2C, dlC, kyC, Nat.beq, Nat.ble, rcd, rno, rsw, Nat.reduceAdd, Nat.reduceBEq, Nat.reduceDiv, List.drop, List.take, List.reverse, List.reverseAux, Int.toNat, Option.toList, List.append, List.cons_append, List.nil_append]
    intro w59 τ59 o59 q59
    obtain ⟨A59, B59, V59, rfl, hZ59, hf59, hs59⟩ : SeQ N E A B V z (smM N n (stM N (n - 1)) (rwM N (n - 1)) z) σ w59 τ59 := q59 (N, E, A, B, V, z, n) ⟨_, rfl, hZ, by omega, by omega, (by omega), hfs⟩
    have hF59 := FzC.tr (FzC.rf (n := cnC σ) (m := xnM z) (E := E) (A := A) (B := B) (V := V) (z := z) (σ := σ)) (FzC.mo hf59 (Nat.le_refl (cnC σ)) ((FzC.rf (n := cnC σ) (m := xnM z) (E := E) (A := A) (B := B) (V := V) (z := z) (σ := σ))).2.2.1.1.1)
    have hle59 : cnC σ ≤ cnC τ59 := Nat.le_trans (Nat.le_refl (cnC σ)) (hf59).1
    try dsimp only [Option.toList, List.cons_append, List.nil_append, s1C, s2C, dlC, kyC, Nat.beq, lkC, rcd, rno, rsw]
    try dsimp only [Qz_readStatement]
    rw [st_s hn]
    exact ⟨_, _, _, rfl, hZ59, hF59, hs59⟩
  have g57 : ¬ (c53 : Int32).toInt = 4 := h57
  refine ⟨fun h60 => ?_, fun h60 => ?_⟩
  · have g60 : (c53 : Int32).toInt = 56 := h60
    refine hB _ _ _ _ _ (fun m61 hm61 => ?_)
    dsimp only [ucgo, ucwp, ucsC, uqC, uoC, ctC, rfd, KX7_readStatement, KX7_readStatement_0, KX7_readStatement_116, KX7_readStatement_122, KX7_readStatement_128, KX7_readStatement_134, KX7_readStatement_140, KX7_readStatement_146, KX7_readStatement_152, KX7_readStatement_158, KX7_readStatement_167, KX7_readStatement_176, KX7_readStatement_184, KX7_readStatement_189, lkC, s1C, s2C, dlC, kyC, Nat.beq, Nat.ble, rcd, rno, rsw, Nat.reduceAdd, Nat.reduceBEq, Nat.reduceDiv, List.drop, List.take, List.reverse, List.reverseAux, Int.toNat, Option.toList, List.append, List.cons_append, List.nil_append]
    intro w62 τ62 o62 q62
    obtain ⟨A62, B62, V62, rfl, hZ62, hf62, hs62⟩ : SeQ N E A B V z (ifM N n (stM N (n - 1)) z) σ w62 τ62 := q62 (N, E, A, B, V, z, n) ⟨_, rfl, hZ, by omega, by omega, (by rw [← s56 (by omega)]; exact hfs)⟩
    have hF62 := FzC.tr (FzC.rf (n := cnC σ) (m := xnM z) (E := E) (A := A) (B := B) (V := V) (z := z) (σ := σ)) (FzC.mo hf62 (Nat.le_refl (cnC σ)) ((FzC.rf (n := cnC σ) (m := xnM z) (E := E) (A := A) (B := B) (V := V) (z := z) (σ := σ))).2.2.1.1.1)
    have hle62 : cnC σ ≤ cnC τ62 := Nat.le_trans (Nat.le_refl (cnC σ)) (hf62).1
    try dsimp only [Option.toList, List.cons_append, List.nil_append, s1C, s2C, dlC, kyC, Nat.beq, lkC, rcd, rno, rsw]
    try dsimp only [Qz_readStatement]
    rw [st_s hn, s56 (by omega)]
    exact ⟨_, _, _, rfl, hZ62, hF62, hs62⟩
  have g60 : ¬ (c53 : Int32).toInt = 56 := h60
  refine ⟨fun h63 => ?_, fun h63 => ?_⟩
  · have g63 : (c53 : Int32).toInt = 58 := h63
    refine hB _ _ _ _ _ (fun m64 hm64 => ?_)
    dsimp only [ucgo, ucwp, ucsC, uqC, uoC, ctC, rfd, KX7_readStatement, KX7_readStatement_0, KX7_readStatement_116, KX7_readStatement_122, KX7_readStatement_128, KX7_readStatement_134, KX7_readStatement_140, KX7_readStatement_146, KX7_readStatement_152, KX7_readStatement_158, KX7_readStatement_167, KX7_readStatement_176, KX7_readStatement_184, KX7_readStatement_189, lkC, s1C, s2C, dlC, kyC, Nat.beq, Nat.ble, rcd, rno, rsw, Nat.reduceAdd, Nat.reduceBEq, Nat.reduceDiv, List.drop, List.take, List.reverse, List.reverseAux, Int.toNat, Option.toList, List.append, List.cons_append, List.nil_append]
    intro w65 τ65 o65 q65
    obtain ⟨A65, B65, V65, rfl, hZ65, hf65, hs65⟩ : SeQ N E A B V z (whM N n (stM N (n - 1)) z) σ w65 τ65 := q65 (N, E, A, B, V, z, n) ⟨_, rfl, hZ, by omega, by omega, (by rw [← s58 (by omega)]; exact hfs)⟩
    have hF65 := FzC.tr (FzC.rf (n := cnC σ) (m := xnM z) (E := E) (A := A) (B := B) (V := V) (z := z) (σ := σ)) (FzC.mo hf65 (Nat.le_refl (cnC σ)) ((FzC.rf (n := cnC σ) (m := xnM z) (E := E) (A := A) (B := B) (V := V) (z := z) (σ := σ))).2.2.1.1.1)
    have hle65 : cnC σ ≤ cnC τ65 := Nat.le_trans (Nat.le_refl (cnC σ)) (hf65).1
    try dsimp only [Option.toList, List.cons_append, List.nil_append, s1C, s2C, dlC, kyC, Nat.beq, lkC, rcd, rno, rsw]
    try dsimp only [Qz_readStatement]
    rw [st_s hn, s58 (by omega)]
    exact ⟨_, _, _, rfl, hZ65, hF65, hs65⟩
  have g63 : ¬ (c53 : Int32).toInt = 58 := h63
  refine ⟨fun h66 => ?_, fun h66 => ?_⟩
  · have g66 : (c53 : Int32).toInt = 59 := h66
    refine hB _ _ _ _ _ (fun m67 hm67 => ?_)
    dsimp only [ucgo, ucwp, ucsC, uqC, uoC, ctC, rfd, KX7_readStatement, KX7_readStatement_0, KX7_readStatement_116, KX7_readStatement_122, KX7_readStatement_128, KX7_readStatement_134, KX7_readStatement_140, KX7_readStatement_146, KX7_readStatement_152, KX7_readStatement_158, KX7_readStatement_167, KX7_readStatement_176, KX7_readStatement_184, KX7_readStatement_189, lkC, s1C, s2C, dlC, kyC, Nat.beq, Nat.ble, rcd, rno, rsw, Nat.reduceAdd, Nat.reduceBEq, Nat.reduceDiv, List.drop, List.take, List.reverse, List.reverseAux, Int.toNat, Option.toList, List.append, List.cons_append, List.nil_append]
    intro w68 τ68 o68 q68
    obtain ⟨A68, B68, V68, rfl, hZ68, hf68, hs68⟩ : SeQ N E A B V z (doM N n (stM N (n - 1)) z) σ w68 τ68 := q68 (N, E, A, B, V, z, n) ⟨_, rfl, hZ, by omega, by omega, (by rw [← s59 (by omega)]; exact hfs)⟩
    have hF68 := FzC.tr (FzC.rf (n := cnC σ) (m := xnM z) (E := E) (A := A) (B := B) (V := V) (z := z) (σ := σ)) (FzC.mo hf68 (Nat.le_refl (cnC σ)) ((FzC.rf (n := cnC σ) (m := xnM z) (E := E) (A := A) (B := B) (V := V) (z := z) (σ := σ))).2.2.1.1.1)
    have hle68 : cnC σ ≤ cnC τ68 := Nat.le_trans (Nat.le_refl (cnC σ)) (hf68).1
    try dsimp only [Option.toList, List.cons_append, List.nil_append, s1C, s2C, dlC, kyC, Nat.beq, lkC, rcd, rno, rsw]
    try dsimp only [Qz_readStatement]
    rw [st_s hn, s59 (by omega)]
    exact ⟨_, _, _, rfl, hZ68, hF68, hs68⟩
  have g66 : ¬ (c53 : Int32).toInt = 59 := h66
  refine ⟨fun h69 => ?_, fun h69 => ?_⟩
  · have g69 : (c53 : Int32).toInt = 60 := h69
    refine hB _ _ _ _ _ (fun m70 hm70 => ?_)
    dsimp only [ucgo, ucwp, ucsC, uqC, uoC, ctC, rfd, KX7_readStatement, KX7_readStatement_0, KX7_readStatement_116, KX7_readStatement_122, KX7_readStatement_128, KX7_readStatement_134, KX7_readStatement_140, KX7_readStatement_146, KX7_readStatement_152, KX7_readStatement_158, KX7_readStatement_167, KX7_readStatement_176, KX7_readStatement_184, KX7_readStatement_189, lkC, s1C, s2C, dlC, kyC, Nat.beq, Nat.ble, rcd, rno, rsw, Nat.reduceAdd, Nat.reduceBEq, Nat.reduceDiv, List.drop, List.take, List.reverse, List.reverseAux, Int.toNat, Option.toList, List.append, List.cons_append, List.nil_append]
    intro w71 τ71 o71 q71
    obtain ⟨A71, B71, V71, rfl, hZ71, hf71, hs71⟩ : SeQ N E A B V z (foM2 N n (stM N (n - 1)) z) σ w71 τ71 := q71 (N, E, A, B, V, z, n) ⟨_, rfl, hZ, by omega, by omega, (by rw [← s60 (by omega)]; exact hfs)⟩
    have hF71 := FzC.tr (FzC.rf (n := cnC σ) (m := xnM z) (E := E) (A := A) (B := B) (V := V) (z := z) (σ := σ)) (FzC.mo hf71 (Nat.le_refl (cnC σ)) ((FzC.rf (n := cnC σ) (m := xnM z) (E := E) (A := A) (B := B) (V := V) (z := z) (σ := σ))).2.2.1.1.1)
    have hle71 : cnC σ ≤ cnC τ71 := Nat.le_trans (Nat.le_refl (cnC σ)) (hf71).1
    try dsimp only [Option.toList, List.cons_append, List.nil_append, s1C, s2C, dlC, kyC, Nat.beq, lkC, rcd, rno, rsw]
    try dsimp only [Qz_readStatement]
    rw [st_s hn, s60 (by omega)]
    exact ⟨_, _, _, rfl, hZ71, hF71, hs71⟩
  have g69 : ¬ (c53 : Int32).toInt = 60 := h69
  refine ⟨fun h72 => ?_, fun h72 => ?_⟩
  · have g72 : (c53 : Int32).toInt = 61 := h72
    refine hB _ _ _ _ _ (fun m73 hm73 => ?_)
    dsimp only [ucgo, ucwp, ucsC, uqC, uoC, ctC, rfd, KX7_readStatement, KX7_readStatement_0, KX7_readStatement_116, KX7_readStatement_122, KX7_readStatement_128, KX7_readStatement_134, KX7_readStatement_140, KX7_readStatement_146, KX7_readStatement_152, KX7_readStatement_158, KX7_readStatement_167, KX7_readStatement_176, KX7_readStatement_184, KX7_readStatement_189, lkC, s1C, s2C, dlC, kyC, Nat.beq, Nat.ble, rcd, rno, rsw, Nat.reduceAdd, Nat.reduceBEq, Nat.reduceDiv, List.drop, List.take, List.reverse, List.reverseAux, Int.toNat, Option.toList, List.append, List.cons_append, List.nil_append]
    intro w74 τ74 o74 q74
    obtain ⟨A74, B74, V74, rfl, hZ74, hf74, hs74⟩ : SeQ N E A B V z (swM N n (rwM N (n - 1)) z) σ w74 τ74 := q74 (N, E, A, B, V, z, n) ⟨_, rfl, hZ, by omega, by omega, (by rw [← s61 (by omega)]; exact hfs)⟩
    have hF74 := FzC.tr (FzC.rf (n := cnC σ) (m := xnM z) (E := E) (A := A) (B := B) (V := V) (z := z) (σ := σ)) (FzC.mo hf74 (Nat.le_refl (cnC σ)) ((FzC.rf (n := cnC σ) (m := xnM z) (E := E) (A := A) (B := B) (V := V) (z := z) (σ := σ))).2.2.1.1.1)
    have hle74 : cnC σ ≤ cnC τ74 := Nat.le_trans (Nat.le_refl (cnC σ)) (hf74).1
    try dsimp only [Option.toList, List.cons_append, List.nil_append, s1C, s2C, dlC, kyC, Nat.beq, lkC, rcd, rno, rsw]
    try dsimp only [Qz_readStatement]
    rw [st_s hn, s61 (by omega)]
    exact ⟨_, _, _, rfl, hZ74, hF74, hs74⟩
  have g72 : ¬ (c53 : Int32).toInt = 61 := h72
  refine ⟨fun h75 => ?_, fun h75 => ?_⟩
  · have g75 : (c53 : Int32).toInt = 64 := h75
    refine hB _ _ _ _ _ (fun m76 hm76 => ?_)
    dsimp only [ucgo, ucwp, ucsC, uqC, uoC, ctC, rfd, KX7_readStatement, KX7_readStatement_0, KX7_readStatement_116, KX7_readStatement_122, KX7_readStatement_128, KX7_readStatement_134, KX7_readStatement_140, KX7_readStatement_146, KX7_readStatement_152, KX7_readStatement_158, KX7_readStatement_167, KX7_readStatement_176, KX7_readStatement_184, KX7_readStatement_189, lkC, s1C, s2C, dlC, kyC, Nat.beq, Nat.ble, rcd, rno, rsw, Nat.reduceAdd, Nat.reduceBEq, Nat.reduceDiv, List.drop, List.take, List.reverse, List.reverseAux, Int.toNat, Option.toList, List.append, List.cons_append, List.nil_append]
    intro w77 τ77 o77 q77
    obtain ⟨A77, B77, V77, rfl, hZ77, hf77, hs77⟩ : SeQ N E A B V z (smM N n (stM N (n - 1)) (rwM N (n - 1)) z) σ w77 τ77 := q77 (N, E, A, B, V, z, n) ⟨_, rfl, hZ, by omega, by omega, (by omega), hfs⟩
    have hF77 := FzC.tr (FzC.rf (n := cnC σ) (m := xnM z) (E := E) (A := A) (B := B) (V := V) (z := z) (σ := σ)) (FzC.mo hf77 (Nat.le_refl (cnC σ)) ((FzC.rf (n := cnC σ) (m := xnM z) (E := E) (A := A) (B := B) (V := V) (z := z) (σ := σ))).2.2.1.1.1)
    have hle77 : cnC σ ≤ cnC τ77 := Nat.le_trans (Nat.le_refl (cnC σ)) (hf77).1
    try dsimp only [Option.toList, List.cons_append, List.nil_append, s1C, s2C, dlC, kyC, Nat.beq, lkC, rcd, rno, rsw]
    try dsimp only [Qz_readStatement]
    rw [st_s hn]
    exact ⟨_, _, _, rfl, hZ77, hF77, hs77⟩
  have g75 : ¬ (c53 : Int32).toInt = 64 := h75
  refine ⟨fun h78 => ?_, fun h78 => ?_⟩
  · have g78 : (c53 : Int32).toInt = 65 := h78
    refine hB _ _ _ _ _ (fun m79 hm79 => ?_)
    dsimp only [ucgo, ucwp, ucsC, uqC, uoC, ctC, rfd, KX7_readStatement, KX7_readStatement_0, KX7_readStatement_116, KX7_readStatement_122, KX7_readStatement_128, KX7_readStatement_134, KX7_readStatement_140, KX7_readStatement_146, KX7_readStatement_152, KX7_readStatement_158, KX7_readStatement_167, KX7_readStatement_176, KX7_readStatement_184, KX7_readStatement_189, lkC, s1C, s2C, dlC, kyC, Nat.beq, Nat.ble, rcd, rno, rsw, Nat.reduceAdd, Nat.reduceBEq, Nat.reduceDiv, List.drop, List.take, List.reverse, List.reverseAux, Int.toNat, Option.toList, List.append, List.cons_append, List.nil_append]
    intro w80 τ80 o80 q80
    obtain ⟨A80, B80, V80, rfl, hZ80, hf80, hs80⟩ : SeQ N E A B V z (smM N n (stM N (n - 1)) (rwM N (n - 1)) z) σ w80 τ80 := q80 (N, E, A, B, V, z, n) ⟨_, rfl, hZ, by omega, by omega, (by omega), hfs⟩
    have hF80 := FzC.tr (FzC.rf (n := cnC σ) (m := xnM z) (E := E) (A := A) (B := B) (V := V) (z := z) (σ := σ)) (FzC.mo hf80 (Nat.le_refl (cnC σ)) ((FzC.rf (n := cnC σ) (m := xnM z) (E := E) (A := A) (B := B) (V := V) (z := z) (σ := σ))).2.2.1.1.1)
    have hle80 : cnC σ ≤ cnC τ80 := Nat.le_trans (Nat.le_refl (cnC σ)) (hf80).1
    try dsimp only [Option.toList, List.cons_append, List.nil_append, s1C, s2C, dlC, kyC, Nat.beq, lkC, rcd, rno, rsw]
    try dsimp only [Qz_readStatement]
    rw [st_s hn]
    exact ⟨_, _, _, rfl, hZ80, hF80, hs80⟩
  have g78 : ¬ (c53 : Int32).toInt = 65 := h78
  refine ⟨fun h81 => ?_, fun h81 => ?_⟩
  · have g81 : (c53 : Int32).toInt = 66 := h81
    refine hB _ _ _ _ _ (fun m82 hm82 => ?_)
    dsimp only [ucgo, ucwp, ucsC, uqC, uoC, ctC, rfd, KX7_readStatement, KX7_readStatement_0, KX7_readStatement_116, KX7_readStatement_122, KX7_readStatement_128, KX7_readStatement_134, KX7_readStatement_140, KX7_readStatement_146, KX7_readStatement_152, KX7_readStatement_158, KX7_readStatement_167, KX7_readStatement_176, KX7_readStatement_184, KX7_readStatement_189, lkC, s1C, s2C, dlC, kyC, Nat.beq, Nat.ble, rcd, rno, rsw, Nat.reduceAdd, Nat.reduceBEq, Nat.reduceDiv, List.drop, List.take, List.reverse, List.reverseAux, Int.toNat, Option.toList, List.append, List.cons_append, List.nil_append]
    intro w83 τ83 o83 q83
    obtain ⟨A83, B83, V83, rfl, hZ83, hf83, hs83⟩ : SeQ N E A B V z (smM N n (stM N (n - 1)) (rwM N (n - 1)) z) σ w83 τ83 := q83 (N, E, A, B, V, z, n) ⟨_, rfl, hZ, by omega, by omega, (by omega), hfs⟩
    have hF83 := FzC.tr (FzC.rf (n := cnC σ) (m := xnM z) (E := E) (A := A) (B := B) (V := V) (z := z) (σ := σ)) (FzC.mo hf83 (Nat.le_refl (cnC σ)) ((FzC.rf (n := cnC σ) (m := xnM z) (E := E) (A := A) (B := B) (V := V) (z := z) (σ := σ))).2.2.1.1.1)
    have hle83 : cnC σ ≤ cnC τ83 := Nat.le_trans (Nat.le_refl (cnC σ)) (hf83).1
    try dsimp only [Option.toList, List.cons_append, List.nil_append, s1C, s2C, dlC, kyC, Nat.beq, lkC, rcd, rno, rsw]
    try dsimp only [Qz_readStatement]
    rw [st_s hn]
    exact ⟨_, _, _, rfl, hZ83, hF83, hs83⟩
  have g81 : ¬ (c53 : Int32).toInt = 66 := h81
  refine ⟨fun h84 => ?_, fun h84 => ?_⟩
  · have g84 : (c53 : Int32).toInt = 67 := h84
    refine hB _ _ _ _ _ (fun m85 hm85 => ?_)
    dsimp only [ucgo, ucwp, ucsC, uqC, uoC, ctC, rfd, KX7_readStatement, KX7_readStatement_0, KX7_readStatement_116, KX7_readStatement_122, KX7_readStatement_128, KX7_readStatement_134, KX7_readStatement_140, KX7_readStatement_146, KX7_readStatement_152, KX7_readStatement_158, KX7_readStatement_167, KX7_readStatement_176, KX7_readStatement_184, KX7_readStatement_189, lkC, s1C, s2C, dlC, kyC, Nat.beq, Nat.ble, rcd, rno, rsw, Nat.reduceAdd, Nat.reduceBEq, Nat.reduceDiv, List.drop, List.take, List.reverse, List.reverseAux, Int.toNat, Option.toList, List.append, List.cons_append, List.nil_append]
    intro w86 τ86 o86 q86
    obtain ⟨A86, B86, V86, rfl, hZ86, hf86, hs86⟩ : SeQ N E A B V z (smM N n (stM N (n - 1)) (rwM N (n - 1)) z) σ w86 τ86 := q86 (N, E, A, B, V, z, n) ⟨_, rfl, hZ, by omega, by omega, (by omega), hfs⟩
    have hF86 := FzC.tr (FzC.rf (n := cnC σ) (m := xnM z) (E := E) (A := A) (B := B) (V := V) (z := z) (σ := σ)) (FzC.mo hf86 (Nat.le_refl (cnC σ)) ((FzC.rf (n := cnC σ) (m := xnM z) (E := E) (A := A) (B := B) (V := V) (z := z) (σ := σ))).2.2.1.1.1)
    have hle86 : cnC σ ≤ cnC τ86 := Nat.le_trans (Nat.le_refl (cnC σ)) (hf86).1
    try dsimp only [Option.toList, List.cons_append, List.nil_append, s1C, s2C, dlC, kyC, Nat.beq, lkC, rcd, rno, rsw]
    try dsimp only [Qz_readStatement]
    rw [st_s hn]
    exact ⟨_, _, _, rfl, hZ86, hF86, hs86⟩
  have g84 : ¬ (c53 : Int32).toInt = 67 := h84
  refine ⟨fun h87 => ?_, fun h87 => ?_⟩
  · have g87 : (c53 : Int32).toInt = 68 := h87
    refine hB _ _ _ _ _ (fun m88 hm88 => ?_)
    dsimp only [ucgo, ucwp, ucsC, uqC, uoC, ctC, rfd, KX7_readStatement, KX7_readStatement_0, KX7_readStatement_116, KX7_readStatement_122, KX7_readStatement_128, KX7_readStatement_134, KX7_readStatement_140, KX7_readStatement_146, KX7_readStatement_152, KX7_readStatement_158, KX7_readStatement_167, KX7_readStatement_176, KX7_readStatement_184, KX7_readStatement_189, lkC, s1C, s2C, dlC, kyC, Nat.beq, Nat.ble, rcd, rno, rsw, Nat.reduceAdd, Nat.reduceBEq, Nat.reduceDiv, List.drop, List.take, List.reverse, List.reverseAux, Int.toNat, Option.toList, List.append, List.cons_append, List.nil_append]
    intro w89 τ89 o89 q89
    obtain ⟨A89, B89, V89, rfl, hZ89, hf89, hs89⟩ : SeQ N E A B V z (trM N n (rwM N (n - 1)) z) σ w89 τ89 := q89 (N, E, A, B, V, z, n) ⟨_, rfl, hZ, by omega, by omega, (by rw [← s68 (by omega)]; exact hfs)⟩
    have hF89 := FzC.tr (FzC.rf (n := cnC σ) (m := xnM z) (E := E) (A := A) (B := B) (V := V) (z := z) (σ := σ)) (FzC.mo hf89 (Nat.le_refl (cnC σ)) ((FzC.rf (n := cnC σ) (m := xnM z) (E := E) (A := A) (B := B) (V := V) (z := z) (σ := σ))).2.2.1.1.1)
    have hle89 : cnC σ ≤ cnC τ89 := Nat.le_trans (Nat.le_refl (cnC σ)) (hf89).1
    try dsimp only [Option.toList, List.cons_append, List.nil_append, s1C, s2C, dlC, kyC, Nat.beq, lkC, rcd, rno, rsw]
    try dsimp only [Qz_readStatement]
    rw [st_s hn, s68 (by omega)]
    exact ⟨_, _, _, rfl, hZ89, hF89, hs89⟩
  have g87 : ¬ (c53 : Int32).toInt = 68 := h87
  refine hB _ _ _ _ _ (fun m90 hm90 => ?_)
  dsimp only [ucgo, ucwp, ucsC, uqC, uoC, ctC, rfd, KX7_readStatement, KX7_readStatement_0, KX7_readStatement_116, KX7_readStatement_122, KX7_readStatement_128, KX7_readStatement_134, KX7_readStatement_140, KX7_readStatement_146, KX7_readStatement_152, KX7_readStatement_158, KX7_readStatement_167, KX7_readStatement_176, KX7_readStatement_184, KX7_readStatement_189, lkC, s1C, s2C, dlC, kyC, Nat.beq, Nat.ble, rcd, rno, rsw, Nat.reduceAdd, Nat.reduceBEq, Nat.reduceDiv, List.drop, List.take, List.reverse, List.reverseAux, Int.toNat, Option.toList, List.append, List.cons_append, List.nil_append]
  intro w91 τ91 o91 q91
  obtain ⟨c91, rfl, hc91, rfl⟩ := q91 (N, E, A, B, V, z) ⟨rfl, hZ⟩
  try dsimp only [Option.toList, List.cons_append, List.nil_append, s1C, s2C, dlC, kyC, Nat.beq, lkC, rcd, rno, rsw]
  have c92 : (Int32.ofInt 80).toInt = 80 := by decide
  refine ⟨fun h93 => ?_, fun h93 => ?_⟩
  · have g93 := (neI (x := c91) (y := (Int32.ofInt 80)) h93 : ¬ (c91 : Int32).toInt = ((Int32.ofInt 80) : Int32).toInt)
    refine hB _ _ _ _ _ (fun m94 hm94 => ?_)
    dsimp only [ucgo, ucwp, ucsC, uqC, uoC, ctC, rfd, KX7_readStatement, KX7_readStatement_0, KX7_readStatement_116, KX7_readStatement_122, KX7_readStatement_128, KX7_readStatement_134, KX7_readStatement_140, KX7_readStatement_146, KX7_readStatement_152, KX7_readStatement_158, KX7_readStatement_167, KX7_readStatement_176, KX7_readStatement_184, KX7_readStatement_189, lkC, s1C, s2C, dlC, kyC, Nat.beq, Nat.ble, rcd, rno, rsw, Nat.reduceAdd, Nat.reduceBEq, Nat.reduceDiv, List.drop, List.take, List.reverse, List.reverseAux, Int.toNat, Option.toList, List.append, List.cons_append, List.nil_append]
    intro w95 τ95 o95 q95
    obtain ⟨A95, B95, V95, rfl, hZ95, hf95, hs95⟩ : SeQ N E A B V z (xsM N n z) σ w95 τ95 := q95 (N, E, A, B, V, z, n) ⟨_, rfl, hZ, by omega, by omega, (by rw [← s0 (by omega) (by omega)]; exact hfs)⟩
    have hF95 := FzC.tr (FzC.rf (n := cnC σ) (m := xnM z) (E := E) (A := A) (B := B) (V := V) (z := z) (σ := σ)) (FzC.mo hf95 (Nat.le_refl (cnC σ)) ((FzC.rf (n := cnC σ) (m := xnM z) (E := E) (A := A) (B := B) (V := V) (z := z) (σ := σ))).2.2.1.1.1)
    have hle95 : cnC σ ≤ cnC τ95 := Nat.le_trans (Nat.le_refl (cnC σ)) (hf95).1
    try dsimp only [Option.toList, List.cons_append, List.nil_append, s1C, s2C, dlC, kyC, Nat.beq, lkC, rcd, rno, rsw]
    refine hB _ _ _ _ _ (fun m96 hm96 => ?_)
    dsimp only [ucgo, ucwp, ucsC, uqC, uoC, ctC, rfd, KX7_readStatement, KX7_readStatement_0, KX7_readStatement_116, KX7_readStatement_122, KX7_readStatement_128, KX7_readStatement_134, KX7_readStatement_140, KX7_readStatement_146, KX7_readStatement_152, KX7_readStatement_158, KX7_readStatement_167, KX7_readStatement_176, KX7_readStatement_184, KX7_readStatement_189, lkC, s1C, s2C, dlC, kyC, Nat.beq, Nat.ble, rcd, rno, rsw, Nat.reduceAdd, Nat.reduceBEq, Nat.reduceDiv, List.drop, List.take, List.reverse, List.reverseAux, Int.toNat, Option.toList, List.append, List.cons_append, List.nil_append]
    try dsimp only [Qz_readStatement]
    rw [st_s hn, s0 (by omega) (by omega)]
    exact ⟨_, _, _, rfl, hZ95, hF95, hs95⟩
  · have g93 := (eqI (x := c91) (y := (Int32.ofInt 80)) h93 : (c91 : Int32).toInt = ((Int32.ofInt 80) : Int32).toInt)
    refine hB _ _ _ _ _ (fun m97 hm97 => ?_)
    dsimp only [ucgo, ucwp, ucsC, uqC, uoC, ctC, rfd, KX7_readStatement, KX7_readStatement_0, KX7_readStatement_116, KX7_readStatement_122, KX7_readStatement_128, KX7_readStatement_134, KX7_readStatement_140, KX7_readStatement_146, KX7_readStatement_152, KX7_readStatement_158, KX7_readStatement_167, KX7_readStatement_176, KX7_readStatement_184, KX7_readStatement_189, lkC, s1C, s2C, dlC, kyC, Nat.beq, Nat.ble, rcd, rno, rsw, Nat.reduceAdd, Nat.reduceBEq, Nat.reduceDiv, List.drop, List.take, List.reverse, List.reverseAux, Int.toNat, Option.toList, List.append, List.cons_append, List.nil_append]
    intro w98 τ98 o98 q98
    obtain ⟨c98, rfl, hc98, rfl⟩ := q98 (N, E, A, B, V, z) ⟨rfl, hZ⟩
    try dsimp only [Option.toList, List.cons_append, List.nil_append, s1C, s2C, dlC, kyC, Nat.beq, lkC, rcd, rno, rsw]
    have c99 : (Int32.ofInt 6).toInt = 6 := by decide
    refine ⟨fun h100 => ?_, fun h100 => ?_⟩
    · have g100 := (neI (x := c98) (y := (Int32.ofInt 6)) h100 : ¬ (c98 : Int32).toInt = ((Int32.ofInt 6) : Int32).toInt)
      refine hB _ _ _ _ _ (fun m101 hm101 => ?_)
      dsimp only [ucgo, ucwp, ucsC, uqC, uoC, ctC, rfd, KX7_readStatement, KX7_readStatement_0, KX7_readStatement_116, KX7_readStatement_122, KX7_readStatement_128, KX7_readStatement_134, KX7_readStatement_140, KX7_readStatement_146, KX7_readStatement_152, KX7_readStatement_158, KX7_readStatement_167, KX7_readStatement_176, KX7_readStatement_184, KX7_readStatement_189, lkC, s1C, s2C, dlC, kyC, Nat.beq, Nat.ble, rcd, rno, rsw, Nat.reduceAdd, Nat.reduceBEq, Nat.reduceDiv, List.drop, List.take, List.reverse, List.reverseAux, Int.toNat, Option.toList, List.append, List.cons_append, List.nil_append]
      intro w102 τ102 o102 q102
      obtain ⟨A102, B102, V102, rfl, hZ102, hf102, hs102⟩ : SeQ N E A B V z (xsM N n z) σ w102 τ102 := q102 (N, E, A, B, V, z, n) ⟨_, rfl, hZ, by omega, by omega, (by rw [← s0 (by omega) (by omega)]; exact hfs)⟩
      have hF102 := FzC.tr (FzC.rf (n := cnC σ) (m := xnM z) (E := E) (A := A) (B := B) (V := V) (z := z) (σ := σ)) (FzC.mo hf102 (Nat.le_refl (cnC σ)) ((FzC.rf (n := cnC σ) (m := xnM z) (E := E) (A := A) (B := B) (V := V) (z := z) (σ := σ))).2.2.1.1.1)
      have hle102 : cnC σ ≤ cnC τ102 := Nat.le_trans (Nat.le_refl (cnC σ)) (hf102).1
      try dsimp only [Option.toList, List.cons_append, List.nil_append, s1C, s2C, dlC, kyC, Nat.beq, lkC, rcd, rno, rsw]
      refine hB _ _ _ _ _ (fun m103 hm103 => ?_)
      dsimp only [ucgo, ucwp, ucsC, uqC, uoC, ctC, rfd, KX7_readStatement, KX7_readStatement_0, KX7_readStatement_116, KX7_readStatement_122, KX7_readStatement_128, KX7_readStatement_134, KX7_readStatement_140, KX7_readStatement_146, KX7_readStatement_152, KX7_readStatement_158, KX7_readStatement_167, KX7_readStatement_176, KX7_readStatement_184, KX7_readStatement_189, lkC, s1C, s2C, dlC, kyC, Nat.beq, Nat.ble, rcd, rno, rsw, Nat.reduceAdd, Nat.reduceBEq, Nat.reduceDiv, List.drop, List.take, List.reverse, List.reverseAux, Int.toNat, Option.toList, List.append, List.cons_append, List.nil_append]
      try dsimp only [Qz_readStatement]
      rw [st_s hn, s0 (by omega) (by omega)]
      exact ⟨_, _, _, rfl, hZ102, hF102, hs102⟩
    · have g100 := (eqI (x := c98) (y := (Int32.ofInt 6)) h100 : (c98 : Int32).toInt = ((Int32.ofInt 6) : Int32).toInt)
      refine hB _ _ _ _ _ (fun m104 hm104 => ?_)
      dsimp only [ucgo, ucwp, ucsC, uqC, uoC, ctC, rfd, KX7_readStatement, KX7_readStatement_0, KX7_readStatement_116, KX7_readStatement_122, KX7_readStatement_128, KX7_readStatement_134, KX7_readStatement_140, KX7_readStatement_146, KX7_readStatement_152, KX7_readStatement_158, KX7_readStatement_167, KX7_readStatement_176, KX7_readStatement_184, KX7_readStatement_189, lkC, s1C, s2C, dlC, kyC, Nat.beq, Nat.ble, rcd, rno, rsw, Nat.reduceAdd, Nat.reduceBEq, Nat.reduceDiv, List.drop, List.take, List.reverse, List.reverseAux, Int.toNat, Option.toList, List.append, List.cons_append, List.nil_append]
      intro w105 τ105 o105 q105
      obtain ⟨A105, B105, V105, rfl, hZ105, hf105, hs105⟩ : SeQ N E A B V z (laM n (stM N (n - 1)) z) σ w105 τ105 := q105 (N, E, A, B, V, z, n) ⟨_, rfl, hZ, by omega, by omega, (by rw [← s80 (by omega) (by omega)]; exact hfs)⟩
      have hF105 := FzC.tr (FzC.rf (n := cnC σ) (m := xnM z) (E := E) (A := A) (B := B) (V := V) (z := z) (σ := σ)) (FzC.mo hf105 (Nat.le_refl (cnC σ)) ((FzC.rf (n := cnC σ) (m := xnM z) (E := E) (A := A) (B := B) (V := V) (z := z) (σ := σ))).2.2.1.1.1)
      have hle105 : cnC σ ≤ cnC τ105 := Nat.le_trans (Nat.le_refl (cnC σ)) (hf105).1
      try dsimp only [Option.toList, List.cons_append, List.nil_append, s1C, s2C, dlC, kyC, Nat.beq, lkC, rcd, rno, rsw]
      refine hB _ _ _ _ _ (fun m106 hm106 => ?_)
      dsimp only [ucgo, ucwp, ucsC, uqC, uoC, ctC, rfd, KX7_readStatement, KX7_readStatement_0, KX7_readStatement_116, KX7_readStatement_122, KX7_readStatement_128, KX7_readStatement_134, KX7_readStatement_140, KX7_readStatement_146, KX7_readStatement_152, KX7_readStatement_158, KX7_readStatement_167, KX7_readStatement_176, KX7_readStatement_184, KX7_readStatement_189, lkC, s1C, s2C, dlC, kyC, Nat.beq, Nat.ble, rcd, rno, rsw, Nat.reduceAdd, Nat.reduceBEq, Nat.reduceDiv, List.drop, List.take, List.reverse, List.reverseAux, Int.toNat, Option.toList, List.append, List.cons_append, List.nil_append]
      try dsimp only [Qz_readStatement]
      rw [st_s hn, s80 (by omega) (by omega)]
      exact ⟨_, _, _, rfl, hZ105, hF105, hs105⟩
set_option maxHeartbeats 4000000 in
theorem pz_readRowPart (y : (Int → Int) × (Nat → Nat) × (Nat → Nat) × (Nat → Nat) × (Nat → Nat) × ZS × Nat × Int × Nat × Int) : PbC KX7_readRowPart [(125, TrP, EqC 125), (141, TrP, EqC 141), (129, TrP, EqC 129), (132, TrP, EqC 132), (149, TrP, EqC 149), (147, TrP, EqC 147), (127, TrP, EqC 127)] [(125, Uz_code), (141, Uz_readVariable), (129, Uz_expect), (132, Uz_isType), (149, Uz_readStatement), (147, Uz_readCase)] (fun As σ => Pz_readRowPart y As σ ∧ cnC σ ≤ 1000000 ∧ ∃ w τ, uqC quL 146 As σ w τ) (Qz_readRowPart y) := by
  obtain ⟨N, E, A, B, V, z, n, sw, js, b⟩ := y
  rintro As σ ⟨⟨p1, p2, p3, rfl, hZ, hd, hn, hp2, hp3, hsw, hft⟩, hcn, _, _, hQ⟩ K hB hW n_
  have hH : HI0 σ ∧ TyC σ (E 0) 8 := hQ
  have hat := hZ.at0 hH
  have p1_ : sw = 1 → (codY z.1 = 62 ∨ codY z.1 = 63) → rpM N n (stM N n) sw js b z = csM N js n z := fun q q2 => by
    unfold rpM
    rw [if_pos q, if_pos q2]
  have p2_ : sw = 1 → ¬ (codY z.1 = 62 ∨ codY z.1 = 63) → b = 1 → False := fun q q2 q3 => by
    have h9 := hft
    unfold rpM at h9
    rw [if_pos q, if_neg q2, if_pos q3, lf_rp2 lf_st] at h9
    exact raiY_z (by decide) ((gd_rp2 gd_st _).z h9)
  have p3_ : (sw = 1 → ¬ (codY z.1 = 62 ∨ codY z.1 = 63) ∧ ¬ b = 1) → rpM N n (stM N n) sw js b z = rp2M N n (stM N n) z := fun q => by
    unfold rpM
    by_cases q1 : sw = 1
    · rw [if_pos q1, if_neg (q q1).1, if_neg (q q1).2]
    · rw [if_neg q1]
  have p4_ : (sw = 1 → ¬ (codY z.1 = 62 ∨ codY z.1 = 63) ∧ ¬ b = 1) → (codY z.1 = 71 ∨ (50 ≤ codY z.1 ∧ codY z.1 ≤ 54)) → rpM N n (stM N n) sw js b z = toM N n z := fun q q2 => by
    rw [p3_ q]
    unfold rp2M
    rw [if_pos q2]
  have p5_ : (sw = 1 → ¬ (codY z.1 = 62 ∨ codY z.1 = 63) ∧ ¬ b = 1) → ¬ (codY z.1 = 71 ∨ (50 ≤ codY z.1 ∧ codY z.1 ≤ 54)) → rpM N n (stM N n) sw js b z = stM N n z := fun q q2 => by
    rw [p3_ q]
    unfold rp2M
    rw [if_neg q2]
  have hto : (sw = 1 → ¬ (codY z.1 = 62 ∨ codY z.1 = 63) ∧ ¬ b = 1) → (codY z.1 = 71 ∨ (50 ≤ codY z.1 ∧ codY z.1 ≤ 54)) → zFt (xpM 4 (vaM N (snM z) n (vbM 1 91 n z))).1 = 0 := fun q q2 => by
    have h9 := hft
    rw [p4_ q q2] at h9
    exact h9
  change K n_ 0 [(0, .inr (.inr (some (E 0)))), (1, .inl p1), (2, .inl p2), (3, .inl p3)] [] σ
  refine hB _ _ _ _ _ (fun m51 hm51 => ?_)
  dsimp only [ucgo, ucwp, ucsC, uqC, uoC, ctC, rfd, KX7_readRowPart, KX7_readRowPart_0, KX7_readRowPart_4, KX7_readRowPart_13, KX7_readRowPart_22, KX7_readRowPart_28, KX7_readRowPart_32, KX7_readRowPart_36, KX7_readRowPart_41, KX7_readRowPart_50, KX7_readRowPart_60, KX7_readRowPart_77, lkC, s1C, s2C, dlC, kyC, Nat.beq, Nat.ble, rcd, rno, rsw, Nat.reduceAdd, Nat.reduceBEq, Nat.reduceDiv, List.drop, List.take, List.reverse, List.reverseAux, Int.toNat, Option.toList, List.append, List.cons_append, List.nil_append]
  refine ⟨fun h52 => ?_, fun h52 => ?_⟩
  · have g52 := (eqI (x := p2) (y := 0) h52 : (p2 : Int32).toInt = (0 : Int32).toInt)
    have z0_ : (0 : Int32).toInt = 0 := rfl
    refine hB _ _ _ _ _ (fun m53 hm53 => ?_)
    dsimp only [ucgo, ucwp, ucsC, uqC, uoC, ctC, rfd, KX7_readRowPart, KX7_readRowPart_0, KX7_readRowPart_4, KX7_readRowPart_13, KX7_readRowPart_22, KX7_readRowPart_28, KX7_readRowPart_32, KX7_readRowPart_36, KX7_readRowPart_41, KX7_readRowPart_50, KX7_readRowPart_60, KX7_readRowPart_77, lkC, s1C, s2C, dlC, kyC, Nat.beq, Nat.ble, rcd, rno, rsw, Nat.reduceAdd, Nat.reduceBEq, Nat.reduceDiv, List.drop, List.take, List.reverse, List.reverseAux, Int.toNat, Option.toList, List.append, List.cons_append, List.nil_append]
    refine ⟨fun h54 => ?_, fun h54 => ?_⟩
    · have g54 := (eqI (x := p2) (y := 0) h54 : (p2 : Int32).toInt = (0 : Int32).toInt)
      have z0_ : (0 : Int32).toInt = 0 := rfl
      refine hB _ _ _ _ _ (fun m55 hm55 => ?_)
      dsimp only [ucgo, ucwp, ucsC, uqC, uoC, ctC, rfd, KX7_readRowPart, KX7_readRowPart_0, KX7_readRowPart_4, KX7_readRowPart_13, KX7_readRowPart_22, KX7_readRowPart_28, KX7_readRowPart_32, KX7_readRowPart_36, KX7_readRowPart_41, KX7_readRowPart_50, KX7_readRowPart_60, KX7_readRowPart_77, lkC, s1C, s2C, dlC, kyC, Nat.beq, Nat.ble, rcd, rno, rsw, Nat.reduceAdd, Nat.reduceBEq, Nat.reduceDiv, List.drop, List.take, List.reverse, List.reverseAux, Int.toNat, Option.toList, List.append, List.cons_append, List.nil_append]
      intro w56 τ56 o56 q56
      obtain ⟨c56, rfl, hc56, rfl⟩ := q56 (N, E, A, B, V, z) ⟨rfl, hZ⟩
      try dsimp only [Option.toList, List.cons_append, List.nil_append, s1C, s2C, dlC, kyC, Nat.beq, lkC, rcd, rno, rsw]
      have c57 : (Int32.ofInt 71).toInt = 71 := by decide
      refine ⟨fun h58 => ?_, fun h58 => ?_⟩
      · have g58 := (eqI (x := c56) (y := (Int32.ofInt 71)) h58 : (c56 : Int32).toInt = ((Int32.ofInt 71) : Int32).toInt)
        refine hB _ _ _ _ _ (fun m59 hm59 => ?_)
        dsimp only [ucgo, ucwp, ucsC, uqC, uoC, ctC, rfd, KX7_readRowPart, KX7_readRowPart_0, KX7_readRowPart_4, KX7_readRowPart_13, KX7_readRowPart_22, KX7_readRowPart_28, KX7_readRowPart_32, KX7_readRowPart_36, KX7_readRowPart_41, KX7_readRowPart_50, KX7_readRowPart_60, KX7_readRowPart_77, lkC, s1C, s2C, dlC, kyC, Nat.beq, Nat.ble, rcd, rno, rsw, Nat.reduceAdd, Nat.reduceBEq, Nat.reduceDiv, List.drop, List.take, List.reverse, List.reverseAux, Int.toNat, Option.toList, List.append, List.cons_append, List.nil_append]
        have c60 : (Int32.ofInt 91).toInt = 91 := by decide
        intro w61 τ61 o61 q61
        obtain ⟨A61, B61, V61, rfl, hZ61, hf61, hs61⟩ : SeQ N E A B V z (vaM N (snM z) n (vbM 1 91 n z)) σ w61 τ61 := q61 (N, E, A, B, V, z, n, 91, 1) ⟨_, _, rfl, hZ, by omega, by omega, (by omega), (GpY.z (gd_xp (c := 4) _) (hto (by omega) (by omega)))⟩
        have hF61 := FzC.tr (FzC.rf (n := cnC σ) (m := xnM z) (E := E) (A := A) (B := B) (V := V) (z := z) (σ := σ)) (FzC.mo hf61 (Nat.le_refl (cnC σ)) ((FzC.rf (n := cnC σ) (m := xnM z) (E := E) (A := A) (B := B) (V := V) (z := z) (σ := σ))).2.2.1.1.1)
        have hle61 : cnC σ ≤ cnC τ61 := Nat.le_trans (Nat.le_refl (cnC σ)) (hf61).1
        try dsimp only [Option.toList, List.cons_append, List.nil_append, s1C, s2C, dlC, kyC, Nat.beq, lkC, rcd, rno, rsw]
        have c62 : (Int32.ofInt 4).toInt = 4 := by decide
        intro w63 τ63 o63 q63
        obtain ⟨rfl, hZ63, hf63⟩ := q63 (N, E, A61, B61, V61, (vaM N (snM z) n (vbM 1 91 n z)), 4) ⟨_, rfl, hZ61, by omega, (hto (by omega) (by omega))⟩
        have hF63 := FzC.tr hF61 (FzC.mo hf63 hle61 (hF61).2.2.1.1.1)
        have hle63 : cnC σ ≤ cnC τ63 := Nat.le_trans hle61 (hf63).1
        have hb63_J : B61 (snM z) = (B61 (snM z)) := (hf63.2.2.2.1.1.2 (snM z) hs61).1.trans rfl
        have hl63_J : snM z < snM (xpM 4 (vaM N (snM z) n (vbM 1 91 n z))) := Nat.lt_of_lt_of_le hs61 hf63.2.2.2.1.1.1
        try dsimp only [Option.toList, List.cons_append, List.nil_append, s1C, s2C, dlC, kyC, Nat.beq, lkC, rcd, rno, rsw]
        try dsimp only [Qz_readRowPart]
        rw [p4_ (by omega) (by omega)]
        exact ⟨_, _, _, rfl, ZC.co hZ63, FzC.co hF63, hl63_J⟩
      · have g58 := (neI (x := c56) (y := (Int32.ofInt 71)) h58 : ¬ (c56 : Int32).toInt = ((Int32.ofInt 71) : Int32).toInt)
        refine hB _ _ _ _ _ (fun m64 hm64 => ?_)
        dsimp only [ucgo, ucwp, ucsC, uqC, uoC, ctC, rfd, KX7_readRowPart, KX7_readRowPart_0, KX7_readRowPart_4, KX7_readRowPart_13, KX7_readRowPart_22, KX7_readRowPart_28, KX7_readRowPart_32, KX7_readRowPart_36, KX7_readRowPart_41, KX7_readRowPart_50, KX7_readRowPart_60, KX7_readRowPart_77, lkC, s1C, s2C, dlC, kyC, Nat.beq, Nat.ble, rcd, rno, rsw, Nat.reduceAdd, Nat.reduceBEq, Nat.reduceDiv, List.drop, List.take, List.reverse, List.reverseAux, Int.toNat, Option.toList, List.append, List.cons_append, List.nil_append]
        intro w65 τ65 o65 q65
        obtain ⟨c65, rfl, hc65, rfl⟩ := q65 (N, E, A, B, V, z) ⟨rfl, hZ⟩
        try dsimp only [Option.toList, List.cons_append, List.nil_append, s1C, s2C, dlC, kyC, Nat.beq, lkC, rcd, rno, rsw]
        intro w66 τ66 o66 q66
        have qq66 := q66 (N, E, A, B, V, z) ⟨_, rfl⟩
        obtain ⟨r66, rfl, hr66, rfl⟩ : ∃ r, w66 = some (.inl r) ∧ ((r.toInt = 1 ∧ (50 ≤ (c65 : Int32).toInt ∧ (c65 : Int32).toInt ≤ 54)) ∨ (r.toInt = 0 ∧ ¬ (50 ≤ (c65 : Int32).toInt ∧ (c65 : Int32).toInt ≤ 54))) ∧ σ = τ66 := by
          rcases qq66 with ⟨r, h1, h2, h3, h4⟩ | ⟨r, h1, h2, h3, h4⟩
          · exact ⟨r, h1, Or.inl ⟨h2, h3⟩, h4⟩
          · exact ⟨r, h1, Or.inr ⟨h2, h3⟩, h4⟩
        try dsimp only [Option.toList, List.cons_append, List.nil_append, s1C, s2C, dlC, kyC, Nat.beq, lkC, rcd, rno, rsw]
        refine ⟨fun h67 => ?_, fun h67 => ?_⟩
        · have g67 := (eqI (x := r66) (y := 0) h67 : (r66 : Int32).toInt = (0 : Int32).toInt)
          have z0_ : (0 : Int32).toInt = 0 := rfl
          refine hB _ _ _ _ _ (fun m68 hm68 => ?_)
          dsimp only [ucgo, ucwp, ucsC, uqC, uoC, ctC, rfd, KX7_readRowPart, KX7_readRowPart_0, KX7_readRowPart_4, KX7_readRowPart_13, KX7_readRowPart_22, KX7_readRowPart_28, KX7_readRowPart_32, KX7_readRowPart_36, KX7_readRowPart_41, KX7_readRowPart_50, KX7_readRowPart_60, KX7_readRowPart_77, lkC, s1C, s2C, dlC, kyC, Nat.beq, Nat.ble, rcd, rno, rsw, Nat.reduceAdd, Nat.reduceBEq, Nat.reduceDiv, List.drop, List.take, List.reverse, List.reverseAux, Int.toNat, Option.toList, List.append, List.cons_append, List.nil_append]
          intro w69 τ69 o69 q69
          obtain ⟨A69, B69, V69, rfl, hZ69, hf69, hs69⟩ : SeQ N E A B V z (stM N n z) σ w69 τ69 := q69 (N, E, A, B, V, z, n) ⟨_, rfl, hZ, by omega, (by rw [← p5_ (by omega) (by omega)]; exact hft)⟩
          have hF69 := FzC.tr (FzC.rf (n := cnC σ) (m := xnM z) (E := E) (A := A) (B := B) (V := V) (z := z) (σ := σ)) (FzC.mo hf69 (Nat.le_refl (cnC σ)) ((FzC.rf (n := cnC σ) (m := xnM z) (E := E) (A := A) (B := B) (V := V) (z := z) (σ := σ))).2.2.1.1.1)
          have hle69 : cnC σ ≤ cnC τ69 := Nat.le_trans (Nat.le_refl (cnC σ)) (hf69).1
          try dsimp only [Option.toList, List.cons_append, List.nil_append, s1C, s2C, dlC, kyC, Nat.beq, lkC, rcd, rno, rsw]
          try dsimp only [Qz_readRowPart]
          rw [p5_ (by omega) (by omega)]
          exact ⟨_, _, _, rfl, hZ69, hF69, hs69⟩
        · have g67 := (neI (x := r66) (y := 0) h67 : ¬ (r66 : Int32).toInt = (0 : Int32).toInt)
          have z0_ : (0 : Int32).toInt = 0 := rfl
          refine hB _ _ _ _ _ (fun m70 hm70 => ?_)
          dsimp only [ucgo, ucwp, ucsC, uqC, uoC, ctC, rfd, KX7_readRowPart, KX7_readRowPart_0, KX7_readRowPart_4, KX7_readRowPart_13, KX7_readRowPart_22, KX7_readRowPart_28, KX7_readRowPart_32, KX7_readRowPart_36, KX7_readRowPart_41, KX7_readRowPart_50, KX7_readRowPart_60, KX7_readRowPart_77, lkC, s1C, s2C, dlC, kyC, Nat.beq, Nat.ble, rcd, rno, rsw, Nat.reduceAdd, Nat.reduceBEq, Nat.reduceDiv, List.drop, List.take, List.reverse, List.reverseAux, Int.toNat, Option.toList, List.append, List.cons_append, List.nil_append]
          have c71 : (Int32.ofInt 91).toInt = 91 := by decide
          intro w72 τ72 o72 q72
          obtain ⟨A72, B72, V72, rfl, hZ72, hf72, hs72⟩ : SeQ N E A B V z (vaM N (snM z) n (vbM 1 91 n z)) σ w72 τ72 := q72 (N, E, A, B, V, z, n, 91, 1) ⟨_, _, rfl, hZ, by omega, by omega, (by omega), (GpY.z (gd_xp (c := 4) _) (hto (by omega) (by omega)))⟩
          have hF72 := FzC.tr (FzC.rf (n := cnC σ) (m := xnM z) (E := E) (A := A) (B := B) (V := V) (z := z) (σ := σ)) (FzC.mo hf72 (Nat.le_refl (cnC σ)) ((FzC.rf (n := cnC σ) (m := xnM z) (E := E) (A := A) (B := B) (V := V) (z := z) (σ := σ))).2.2.1.1.1)
          have hle72 : cnC σ ≤ cnC τ72 := Nat.le_trans (Nat.le_refl (cnC σ)) (hf72).1
          try dsimp only [Option.toList, List.cons_append, List.nil_append, s1C, s2C, dlC, kyC, Nat.beq, lkC, rcd, rno, rsw]
          have c73 : (Int32.ofInt 4).toInt = 4 := by decide
          intro w74 τ74 o74 q74
          obtain ⟨rfl, hZ74, hf74⟩ := q74 (N, E, A72, B72, V72, (vaM N (snM z) n (vbM 1 91 n z)), 4) ⟨_, rfl, hZ72, by omega, (hto (by omega) (by omega))⟩
          have hF74 := FzC.tr hF72 (FzC.mo hf74 hle72 (hF72).2.2.1.1.1)
          have hle74 : cnC σ ≤ cnC τ74 := Nat.le_trans hle72 (hf74).1
          have hb74_J : B72 (snM z) = (B72 (snM z)) := (hf74.2.2.2.1.1.2 (snM z) hs72).1.trans rfl
          have hl74_J : snM z < snM (xpM 4 (vaM N (snM z) n (vbM 1 91 n z))) := Nat.lt_of_lt_of_le hs72 hf74.2.2.2.1.1.1
          try dsimp only [Option.toList, List.cons_append, List.nil_append, s1C, s2C, dlC, kyC, Nat.beq, lkC, rcd, rno, rsw]
          try dsimp only [Qz_readRowPart]
          rw [p4_ (by omega) (by omega)]
          exact ⟨_, _, _, rfl, ZC.co hZ74, FzC.co hF74, hl74_J⟩
    · have g54 := (neI (x := p2) (y := 0) h54 : ¬ (p2 : Int32).toInt = (0 : Int32).toInt)
      have z0_ : (0 : Int32).toInt = 0 := rfl
      refine hB _ _ _ _ _ (fun m75 hm75 => ?_)
      dsimp only [ucgo, ucwp, ucsC, uqC, uoC, ctC, rfd, KX7_readRowPart, KX7_readRowPart_0, KX7_readRowPart_4, KX7_readRowPart_13, KX7_readRowPart_22, KX7_readRowPart_28, KX7_readRowPart_32, KX7_readRowPart_36, KX7_readRowPart_41, KX7_readRowPart_50, KX7_readRowPart_60, KX7_readRowPart_77, lkC, s1C, s2C, dlC, kyC, Nat.beq, Nat.ble, rcd, rno, rsw, Nat.reduceAdd, Nat.reduceBEq, Nat.reduceDiv, List.drop, List.take, List.reverse, List.reverseAux, Int.toNat, Option.toList, List.append, List.cons_append, List.nil_append]
      refine ⟨fun h76 => ?_, fun h76 => ?_⟩
      · have g76 := (eqI (x := p3) (y := 0) h76 : (p3 : Int32).toInt = (0 : Int32).toInt)
        have z0_ : (0 : Int32).toInt = 0 := rfl
        refine hB _ _ _ _ _ (fun m77 hm77 => ?_)
        dsimp only [ucgo, ucwp, ucsC, uqC, uoC, ctC, rfd, KX7_readRowPart, KX7_readRowPart_0, KX7_readRowPart_4, KX7_readRowPart_13, KX7_readRowPart_22, KX7_readRowPart_28, KX7_readRowPart_32, KX7_readRowPart_36, KX7_readRowPart_41, KX7_readRowPart_50, KX7_readRowPart_60, KX7_readRowPart_77, lkC, s1C, s2C, dlC, kyC, Nat.beq, Nat.ble, rcd, rno, rsw, Nat.reduceAdd, Nat.reduceBEq, Nat.reduceDiv, List.drop, List.take, List.reverse, List.reverseAux, Int.toNat, Option.toList, List.append, List.cons_append, List.nil_append]
        intro w78 τ78 o78 q78
        obtain ⟨c78, rfl, hc78, rfl⟩ := q78 (N, E, A, B, V, z) ⟨rfl, hZ⟩
        try dsimp only [Option.toList, List.cons_append, List.nil_append, s1C, s2C, dlC, kyC, Nat.beq, lkC, rcd, rno, rsw]
        have c79 : (Int32.ofInt 71).toInt = 71 := by decide
        refine ⟨fun h80 => ?_, fun h80 => ?_⟩
        · have g80 := (eqI (x := c78) (y := (Int32.ofInt 71)) h80 : (c78 : Int32).toInt = ((Int32.ofInt 71) : Int32).toInt)
          refine hB _ _ _ _ _ (fun m81 hm81 => ?_)
          dsimp only [ucgo, ucwp, ucsC, uqC, uoC, ctC, rfd, KX7_readRowPart, KX7_readRowPart_0, KX7_readRowPart_4, KX7_readRowPart_13, KX7_readRowPart_22, KX7_readRowPart_28, KX7_readRowPart_32, KX7_readRowPart_36, KX7_readRowPart_41, KX7_readRowPart_50, KX7_readRowPart_60, KX7_readRowPart_77, lkC, s1C, s2C, dlC, kyC, Nat.beq, Nat.ble, rcd, rno, rsw, Nat.reduceAdd, Nat.reduceBEq, Nat.reduceDiv, List.drop, List.take, List.reverse, List.reverseAux, Int.toNat, Option.toList, List.append, List.cons_append, List.nil_append]
          have c82 : (Int32.ofInt 91).toInt = 91 := by decide
          intro w83 τ83 o83 q83
          obtain ⟨A83, B83, V83, rfl, hZ83, hf83, hs83⟩ : SeQ N E A B V z (vaM N (snM z) n (vbM 1 91 n z)) σ w83 τ83 := q83 (N, E, A, B, V, z, n, 91, 1) ⟨_, _, rfl, hZ, by omega, by omega, (by omega), (GpY.z (gd_xp (c := 4) _) (hto (by omega) (by omega)))⟩
          have hF83 := FzC.tr (FzC.rf (n := cnC σ) (m := xnM z) (E := E) (A := A) (B := B) (V := V) (z := z) (σ := σ)) (FzC.mo hf83 (Nat.le_refl (cnC σ)) ((FzC.rf (n := cnC σ) (m := xnM z) (E := E) (A := A) (B := B) (V := V) (z := z) (σ := σ))).2.2.1.1.1)
          have hle83 : cnC σ ≤ cnC τ83 := Nat.le_trans (Nat.le_refl (cnC σ)) (hf83).1
          try dsimp only [Option.toList, List.cons_append, List.nil_append, s1C, s2C, dlC, kyC, Nat.beq, lkC, rcd, rno, rsw]
          have c84 : (Int32.ofInt 4).toInt = 4 := by decide
          intro w85 τ85 o85 q85
          obtain ⟨rfl, hZ85, hf85⟩ := q85 (N, E, A83, B83, V83, (vaM N (snM z) n (vbM 1 91 n z)), 4) ⟨_, rfl, hZ83, by omega, (hto (by omega) (by omega))⟩
          have hF85 := FzC.tr hF83 (FzC.mo hf85 hle83 (hF83).2.2.1.1.1)
          have hle85 : cnC σ ≤ cnC τ85 := Nat.le_trans hle83 (hf85).1
          have hb85_J : B83 (snM z) = (B83 (snM z)) := (hf85.2.2.2.1.1.2 (snM z) hs83).1.trans rfl
          have hl85_J : snM z < snM (xpM 4 (vaM N (snM z) n (vbM 1 91 n z))) := Nat.lt_of_lt_of_le hs83 hf85.2.2.2.1.1.1
          try dsimp only [Option.toList, List.cons_append, List.nil_append, s1C, s2C, dlC, kyC, Nat.beq, lkC, rcd, rno, rsw]
          try dsimp only [Qz_readRowPart]
          rw [p4_ (by omega) (by omega)]
          exact ⟨_, _, _, rfl, ZC.co hZ85, FzC.co hF85, hl85_J⟩
        · have g80 := (neI (x := c78) (y := (Int32.ofInt 71)) h80 : ¬ (c78 : Int32).toInt = ((Int32.ofInt 71) : Int32).toInt)
          refine hB _ _ _ _ _ (fun m86 hm86 => ?_)
          dsimp only [ucgo, ucwp, ucsC, uqC, uoC, ctC, rfd, KX7_readRowPart, KX7_readRowPart_0, KX7_readRowPart_4, KX7_readRowPart_13, KX7_readRowPart_22, KX7_readRowPart_28, KX7_readRowPart_32, KX7_readRowPart_36, KX7_readRowPart_41, KX7_readRowPart_50, KX7_readRowPart_60, KX7_readRowPart_77, lkC, s1C, s2C, dlC, kyC, Nat.beq, Nat.ble, rcd, rno, rsw, Nat.reduceAdd, Nat.reduceBEq, Nat.reduceDiv, List.drop, List.take, List.reverse, List.reverseAux, Int.toNat, Option.toList, List.append, List.cons_append, List.nil_append]
          intro w87 τ87 o87 q87
          obtain ⟨c87, rfl, hc87, rfl⟩ := q87 (N, E, A, B, V, z) ⟨rfl, hZ⟩
          try dsimp only [Option.toList, List.cons_append, List.nil_append, s1C, s2C, dlC, kyC, Nat.beq, lkC, rcd, rno, rsw]
          intro w88 τ88 o88 q88
          have qq88 := q88 (N, E, A, B, V, z) ⟨_, rfl⟩
          obtain ⟨r88, rfl, hr88, rfl⟩ : ∃ r, w88 = some (.inl r) ∧ ((r.toInt = 1 ∧ (50 ≤ (c87 : Int32).toInt ∧ (c87 : Int32).toInt ≤ 54)) ∨ (r.toInt = 0 ∧ ¬ (50 ≤ (c87 : Int32).toInt ∧ (c87 : Int32).toInt ≤ 54))) ∧ σ = τ88 := by
            rcases qq88 with ⟨r, h1, h2, h3, h4⟩ | ⟨r, h1, h2, h3, h4⟩
            · exact ⟨r, h1, Or.inl ⟨h2, h3⟩, h4⟩
            · exact ⟨r, h1, Or.inr ⟨h2, h3⟩, h4⟩
          try dsimp only [Option.toList, List.cons_append, List.nil_append, s1C, s2C, dlC, kyC, Nat.beq, lkC, rcd, rno, rsw]
          refine ⟨fun h89 => ?_, fun h89 => ?_⟩
          · have g89 := (eqI (x := r88) (y := 0) h89 : (r88 : Int32).toInt = (0 : Int32).toInt)
            have z0_ : (0 : Int32).toInt = 0 := rfl
            refine hB _ _ _ _ _ (fun m90 hm90 => ?_)
            dsimp only [ucgo, ucwp, ucsC, uqC, uoC, ctC, rfd, KX7_readRowPart, KX7_readRowPart_0, KX7_readRowPart_4, KX7_readRowPart_13, KX7_readRowPart_22, KX7_readRowPart_28, KX7_readRowPart_32, KX7_readRowPart_36, KX7_readRowPart_41, KX7_readRowPart_50, KX7_readRowPart_60, KX7_readRowPart_77, lkC, s1C, s2C, dlC, kyC, Nat.beq, Nat.ble, rcd, rno, rsw, Nat.reduceAdd, Nat.reduceBEq, Nat.reduceDiv, List.drop, List.take, List.reverse, List.reverseAux, Int.toNat, Option.toList, List.append, List.cons_append, List.nil_append]
            intro w91 τ91 o91 q91
            obtain ⟨A91, B91, V91, rfl, hZ91, hf91, hs91⟩ : SeQ N E A B V z (stM N n z) σ w91 τ91 := q91 (N, E, A, B, V, z, n) ⟨_, rfl, hZ, by omega, (by rw [← p5_ (by omega) (by omega)]; exact hft)⟩
            have hF91 := FzC.tr (FzC.rf (n := cnC σ) (m := xnM z) (E := E) (A := A) (B := B) (V := V) (z := z) (σ := σ)) (FzC.mo hf91 (Nat.le_refl (cnC σ)) ((FzC.rf (n := cnC σ) (m := xnM z) (E := E) (A := A) (B := B) (V := V) (z := z) (σ := σ))).2.2.1.1.1)
            have hle91 : cnC σ ≤ cnC τ91 := Nat.le_trans (Nat.le_refl (cnC σ)) (hf91).1
            try dsimp only [Option.toList, List.cons_append, List.nil_append, s1C, s2C, dlC, kyC, Nat.beq, lkC, rcd, rno, rsw]
            try dsimp only [Qz_readRowPart]
            rw [p5_ (by omega) (by omega)]
            exact ⟨_, _, _, rfl, hZ91, hF91, hs91⟩
          · have g89 := (neI (x := r88) (y := 0) h89 : ¬ (r88 : Int32).toInt = (0 : Int32).toInt)
            have z0_ : (0 : Int32).toInt = 0 := rfl
            refine hB _ _ _ _ _ (fun m92 hm92 => ?_)
            dsimp only [ucgo, ucwp, ucsC, uqC, uoC, ctC, rfd, KX7_readRowPart, KX7_readRowPart_0, KX7_readRowPart_4, KX7_readRowPart_13, KX7_readRowPart_22, KX7_readRowPart_28, KX7_readRowPart_32, KX7_readRowPart_36, KX7_readRowPart_41, KX7_readRowPart_50, KX7_readRowPart_60, KX7_readRowPart_77, lkC, s1C, s2C, dlC, kyC, Nat.beq, Nat.ble, rcd, rno, rsw, Nat.reduceAdd, Nat.reduceBEq, Nat.reduceDiv, List.drop, List.take, List.reverse, List.reverseAux, Int.toNat, Option.toList, List.append, List.cons_append, List.nil_append]
            have c93 : (Int32.ofInt 91).toInt = 91 := by decide
            intro w94 τ94 o94 q94
            obtain ⟨A94, B94, V94, rfl, hZ94, hf94, hs94⟩ : SeQ N E A B V z (vaM N (snM z) n (vbM 1 91 n z)) σ w94 τ94 := q94 (N, E, A, B, V, z, n, 91, 1) ⟨_, _, rfl, hZ, by omega, by omega, (by omega), (GpY.z (gd_xp (c := 4) _) (hto (by omega) (by omega)))⟩
            have hF94 := FzC.tr (FzC.rf (n := cnC σ) (m := xnM z) (E := E) (A := A) (B := B) (V := V) (z := z) (σ := σ)) (FzC.mo hf94 (Nat.le_refl (cnC σ)) ((FzC.rf (n := cnC σ) (m := xnM z) (E := E) (A := A) (B := B) (V := V) (z := z) (σ := σ))).2.2.1.1.1)
            have hle94 : cnC σ ≤ cnC τ94 := Nat.le_trans (Nat.le_refl (cnC σ)) (hf94).1
            try dsimp only [Option.toList, List.cons_append, List.nil_append, s1C, s2C, dlC, kyC, Nat.beq, lkC, rcd, rno, rsw]
            have c95 : (Int32.ofInt 4).toInt = 4 := by decide
            intro w96 τ96 o96 q96
            obtain ⟨rfl, hZ96, hf96⟩ := q96 (N, E, A94, B94, V94, (vaM N (snM z) n (vbM 1 91 n z)), 4) ⟨_, rfl, hZ94, by omega, (hto (by omega) (by omega))⟩
            have hF96 := FzC.tr hF94 (FzC.mo hf96 hle94 (hF94).2.2.1.1.1)
            have hle96 : cnC σ ≤ cnC τ96 := Nat.le_trans hle94 (hf96).1
            have hb96_J : B94 (snM z) = (B94 (snM z)) := (hf96.2.2.2.1.1.2 (snM z) hs94).1.trans rfl
            have hl96_J : snM z < snM (xpM 4 (vaM N (snM z) n (vbM 1 91 n z))) := Nat.lt_of_lt_of_le hs94 hf96.2.2.2.1.1.1
            try dsimp only [Option.toList, List.cons_append, List.nil_append, s1C, s2C, dlC, kyC, Nat.beq, lkC, rcd, rno, rsw]
            try dsimp only [Qz_readRowPart]
            rw [p4_ (by omega) (by omega)]
            exact ⟨_, _, _, rfl, ZC.co hZ96, FzC.co hF96, hl96_J⟩
      · have g76 := (neI (x := p3) (y := 0) h76 : ¬ (p3 : Int32).toInt = (0 : Int32).toInt)
        have z0_ : (0 : Int32).toInt = 0 := rfl
        exfalso
        exact p2_ (by omega) (by omega) (by omega)
  · have g52 := (neI (x := p2) (y := 0) h52 : ¬ (p2 : Int32).toInt = (0 : Int32).toInt)
    have z0_ : (0 : Int32).toInt = 0 := rfl
    refine hB _ _ _ _ _ (fun m97 hm97 => ?_)
    dsimp only [ucgo, ucwp, ucsC, uqC, uoC, ctC, rfd, KX7_readRowPart, KX7_readRowPart_0, KX7_readRowPart_4, KX7_readRowPart_13, KX7_readRowPart_22, KX7_readRowPart_28, KX7_readRowPart_32, KX7_readRowPart_36, KX7_readRowPart_41, KX7_readRowPart_50, KX7_readRowPart_60, KX7_readRowPart_77, lkC, s1C, s2C, dlC, kyC, Nat.beq, Nat.ble, rcd, rno, rsw, Nat.reduceAdd, Nat.reduceBEq, Nat.reduceDiv, List.drop, List.take, List.reverse, List.reverseAux, Int.toNat, Option.toList, List.append, List.cons_append, List.nil_append]
    intro w98 τ98 o98 q98
    obtain ⟨c98, rfl, hc98, rfl⟩ := q98 (N, E, A, B, V, z) ⟨rfl, hZ⟩
    try dsimp only [Option.toList, List.cons_append, List.nil_append, s1C, s2C, dlC, kyC, Nat.beq, lkC, rcd, rno, rsw]
    have c99 : (Int32.ofInt 62).toInt = 62 := by decide
    refine ⟨fun h100 => ?_, fun h100 => ?_⟩
    · have g100 := (eqI (x := c98) (y := (Int32.ofInt 62)) h100 : (c98 : Int32).toInt = ((Int32.ofInt 62) : Int32).toInt)
      refine hB _ _ _ _ _ (fun m101 hm101 => ?_)
      dsimp only [ucgo, ucwp, ucsC, uqC, uoC, ctC, rfd, KX7_readRowPart, KX7_readRowPart_0, KX7_readRowPart_4, KX7_readRowPart_13, KX7_readRowPart_22, KX7_readRowPart_28, KX7_readRowPart_32, KX7_readRowPart_36, KX7_readRowPart_41, KX7_readRowPart_50, KX7_readRowPart_60, KX7_readRowPart_77, lkC, s1C, s2C, dlC, kyC, Nat.beq, Nat.ble, rcd, rno, rsw, Nat.reduceAdd, Nat.reduceBEq, Nat.reduceDiv, List.drop, List.take, List.reverse, List.reverseAux, Int.toNat, Option.toList, List.append, List.cons_append, List.nil_append]
      intro w102 τ102 o102 q102
      obtain ⟨A102, B102, V102, rfl, hZ102, hf102, hs102⟩ : SeQ N E A B V z (csM N (js : Int) n z) σ w102 τ102 := q102 (N, E, A, B, V, z, n, (js : Int)) ⟨_, rfl, hZ, by omega, by omega, (by omega), (by rw [← p1_ (by omega) (by omega)]; exact hft)⟩
      have hF102 := FzC.tr (FzC.rf (n := cnC σ) (m := xnM z) (E := E) (A := A) (B := B) (V := V) (z := z) (σ := σ)) (FzC.mo hf102 (Nat.le_refl (cnC σ)) ((FzC.rf (n := cnC σ) (m := xnM z) (E := E) (A := A) (B := B) (V := V) (z := z) (σ := σ))).2.2.1.1.1)
      have hle102 : cnC σ ≤ cnC τ102 := Nat.le_trans (Nat.le_refl (cnC σ)) (hf102).1
      try dsimp only [Option.toList, List.cons_append, List.nil_append, s1C, s2C, dlC, kyC, Nat.beq, lkC, rcd, rno, rsw]
      try dsimp only [Qz_readRowPart]
      rw [p1_ (by omega) (by omega)]
      exact ⟨_, _, _, rfl, hZ102, hF102, hs102⟩
    · have g100 := (neI (x := c98) (y := (Int32.ofInt 62)) h100 : ¬ (c98 : Int32).toInt = ((Int32.ofInt 62) : Int32).toInt)
      refine hB _ _ _ _ _ (fun m103 hm103 => ?_)
      dsimp only [ucgo, ucwp, ucsC, uqC, uoC, ctC, rfd, KX7_readRowPart, KX7_readRowPart_0, KX7_readRowPart_4, KX7_readRowPart_13, KX7_readRowPart_22, KX7_readRowPart_28, KX7_readRowPart_32, KX7_readRowPart_36, KX7_readRowPart_41, KX7_readRowPart_50, KX7_readRowPart_60, KX7_readRowPart_77, lkC, s1C, s2C, dlC, kyC, Nat.beq, Nat.ble, rcd, rno, rsw, Nat.reduceAdd, Nat.reduceBEq, Nat.reduceDiv, List.drop, List.take, List.reverse, List.reverseAux, Int.toNat, Option.toList, List.append, List.cons_append, List.nil_append]
      intro w104 τ104 o104 q104
      obtain ⟨c104, rfl, hc104, rfl⟩ := q104 (N, E, A, B, V, z) ⟨rfl, hZ⟩
      try dsimp only [Option.toList, List.cons_append, List.nil_append, s1C, s2C, dlC, kyC, Nat.beq, lkC, rcd, rno, rsw]
      have c105 : (Int32.ofInt 63).toInt = 63 := by decide
      refine ⟨fun h106 => ?_, fun h106 => ?_⟩
      · have g106 := (neI (x := c104) (y := (Int32.ofInt 63)) h106 : ¬ (c104 : Int32).toInt = ((Int32.ofInt 63) : Int32).toInt)
        refine hB _ _ _ _ _ (fun m107 hm107 => ?_)
        dsimp only [ucgo, ucwp, ucsC, uqC, uoC, ctC, rfd, KX7_readRowPart, KX7_readRowPart_0, KX7_readRowPart_4, KX7_readRowPart_13, KX7_readRowPart_22, KX7_readRowPart_28, KX7_readRowPart_32, KX7_readRowPart_36, KX7_readRowPart_41, KX7_readRowPart_50, KX7_readRowPart_60, KX7_readRowPart_77, lkC, s1C, s2C, dlC, kyC, Nat.beq, Nat.ble, rcd, rno, rsw, Nat.reduceAdd, Nat.reduceBEq, Nat.reduceDiv, List.drop, List.take, List.reverse, List.reverseAux, Int.toNat, Option.toList, List.append, List.cons_append, List.nil_append]
        refine ⟨fun h108 => ?_, fun h108 => ?_⟩
        · have g108 := (eqI (x := p2) (y := 0) h108 : (p2 : Int32).toInt = (0 : Int32).toInt)
          have z0_ : (0 : Int32).toInt = 0 := rfl
          refine hB _ _ _ _ _ (fun m109 hm109 => ?_)
          dsimp only [ucgo, ucwp, ucsC, uqC, uoC, ctC, rfd, KX7_readRowPart, KX7_readRowPart_0, KX7_readRowPart_4, KX7_readRowPart_13, KX7_readRowPart_22, KX7_readRowPart_28, KX7_readRowPart_32, KX7_readRowPart_36, KX7_readRowPart_41, KX7_readRowPart_50, KX7_readRowPart_60, KX7_readRowPart_77, lkC, s1C, s2C, dlC, kyC, Nat.beq, Nat.ble, rcd, rno, rsw, Nat.reduceAdd, Nat.reduceBEq, Nat.reduceDiv, List.drop, List.take, List.reverse, List.reverseAux, Int.toNat, Option.toList, List.append, List.cons_append, List.nil_append]
          intro w110 τ110 o110 q110
          obtain ⟨c110, rfl, hc110, rfl⟩ := q110 (N, E, A, B, V, z) ⟨rfl, hZ⟩
          try dsimp only [Option.toList, List.cons_append, List.nil_append, s1C, s2C, dlC, kyC, Nat.beq, lkC, rcd, rno, rsw]
          have c111 : (Int32.ofInt 71).toInt = 71 := by decide
          refine ⟨fun h112 => ?_, fun h112 => ?_⟩
          · have g112 := (eqI (x := c110) (y := (Int32.ofInt 71)) h112 : (c110 : Int32).toInt = ((Int32.ofInt 71) : Int32).toInt)
            refine hB _ _ _ _ _ (fun m113 hm113 => ?_)
            dsimp only [ucgo, ucwp, ucsC, uqC, uoC, ctC, rfd, KX7_readRowPart, KX7_readRowPart_0, KX7_readRowPart_4, KX7_readRowPart_13, KX7_readRowPart_22, KX7_readRowPart_28, KX7_readRowPart_32, KX7_readRowPart_36, KX7_readRowPart_41, KX7_readRowPart_50, KX7_readRowPart_60, KX7_readRowPart_77, lkC, s1C, s2C, dlC, kyC, Nat.beq, Nat.ble, rcd, rno, rsw, Nat.reduceAdd, Nat.reduceBEq, Nat.reduceDiv, List.drop, List.take, List.reverse, List.reverseAux, Int.toNat, Option.toList, List.append, List.cons_append, List.nil_append]
            have c114 : (Int32.ofInt 91).toInt = 91 := by decide
            intro w115 τ115 o115 q115
            obtain ⟨A115, B115, V115, rfl, hZ115, hf115, hs115⟩ : SeQ N E A B V z (vaM N (snM z) n (vbM 1 91 n z)) σ w115 τ115 := q115 (N, E, A, B, V, z, n, 91, 1) ⟨_, _, rfl, hZ, by omega, by omega, (by omega), (GpY.z (gd_xp (c := 4) _) (hto (by omega) (by omega)))⟩
            have hF115 := FzC.tr (FzC.rf (n := cnC σ) (m := xnM z) (E := E) (A := A) (B := B) (V := V) (z := z) (σ := σ)) (FzC.mo hf115 (Nat.le_refl (cnC σ)) ((FzC.rf (n := cnC σ) (m := xnM z) (E := E) (A := A) (B := B) (V := V) (z := z) (σ := σ))).2.2.1.1.1)
            have hle115 : cnC σ ≤ cnC τ115 := Nat.le_trans (Nat.le_refl (cnC σ)) (hf115).1
            try dsimp only [Option.toList, List.cons_append, List.nil_append, s1C, s2C, dlC, kyC, Nat.beq, lkC, rcd, rno, rsw]
            have c116 : (Int32.ofInt 4).toInt = 4 := by decide
            intro w117 τ117 o117 q117
            obtain ⟨rfl, hZ117, hf117⟩ := q117 (N, E, A115, B115, V115, (vaM N (snM z) n (vbM 1 91 n z)), 4) ⟨_, rfl, hZ115, by omega, (hto (by omega) (by omega))⟩
            have hF117 := FzC.tr hF115 (FzC.mo hf117 hle115 (hF115).2.2.1.1.1)
            have hle117 : cnC σ ≤ cnC τ117 := Nat.le_trans hle115 (hf117).1
            have hb117_J : B115 (snM z) = (B115 (snM z)) := (hf117.2.2.2.1.1.2 (snM z) hs115).1.trans rfl
            have hl117_J : snM z < snM (xpM 4 (vaM N (snM z) n (vbM 1 91 n z))) := Nat.lt_of_lt_of_le hs115 hf117.2.2.2.1.1.1
            try dsimp only [Option.toList, List.cons_append, List.nil_append, s1C, s2C, dlC, kyC, Nat.beq, lkC, rcd, rno, rsw]
            try dsimp only [Qz_readRowPart]
            rw [p4_ (by omega) (by omega)]
            exact ⟨_, _, _, rfl, ZC.co hZ117, FzC.co hF117, hl117_J⟩
          · have g112 := (neI (x := c110) (y := (Int32.ofInt 71)) h112 : ¬ (c110 : Int32).toInt = ((Int32.ofInt 71) : Int32).toInt)
            refine hB _ _ _ _ _ (fun m118 hm118 => ?_)
            dsimp only [ucgo, ucwp, ucsC, uqC, uoC, ctC, rfd, KX7_readRowPart, KX7_readRowPart_0, KX7_readRowPart_4, KX7_readRowPart_13, KX7_readRowPart_22, KX7_readRowPart_28, KX7_readRowPart_32, KX7_readRowPart_36, KX7_readRowPart_41, KX7_readRowPart_50, KX7_readRowPart_60, KX7_readRowPart_77, lkC, s1C, s2C, dlC, kyC, Nat.beq, Nat.ble, rcd, rno, rsw, Nat.reduceAdd, Nat.reduceBEq, Nat.reduceDiv, List.drop, List.take, List.reverse, List.reverseAux, Int.toNat, Option.toList, List.append, List.cons_append, List.nil_append]
            intro w119 τ119 o119 q119
            obtain ⟨c119, rfl, hc119, rfl⟩ := q119 (N, E, A, B, V, z) ⟨rfl, hZ⟩
            try dsimp only [Option.toList, List.cons_append, List.nil_append, s1C, s2C, dlC, kyC, Nat.beq, lkC, rcd, rno, rsw]
            intro w120 τ120 o120 q120
            have qq120 := q120 (N, E, A, B, V, z) ⟨_, rfl⟩
            obtain ⟨r120, rfl, hr120, rfl⟩ : ∃ r, w120 = some (.inl r) ∧ ((r.toInt = 1 ∧ (50 ≤ (c119 : Int32).toInt ∧ (c119 : Int32).toInt ≤ 54)) ∨ (r.toInt = 0 ∧ ¬ (50 ≤ (c119 : Int32).toInt ∧ (c119 : Int32).toInt ≤ 54))) ∧ σ = τ120 := by
              rcases qq120 with ⟨r, h1, h2, h3, h4⟩ | ⟨r, h1, h2, h3, h4⟩
              · exact ⟨r, h1, Or.inl ⟨h2, h3⟩, h4⟩
              · exact ⟨r, h1, Or.inr ⟨h2, h3⟩, h4⟩
            try dsimp only [Option.toList, List.cons_append, List.nil_append, s1C, s2C, dlC, kyC, Nat.beq, lkC, rcd, rno, rsw]
            refine ⟨fun h121 => ?_, fun h121 => ?_⟩
            · have g121 := (eqI (x := r120) (y := 0) h121 : (r120 : Int32).toInt = (0 : Int32).toInt)
              have z0_ : (0 : Int32).toInt = 0 := rfl
              refine hB _ _ _ _ _ (fun m122 hm122 => ?_)
              dsimp only [ucgo, ucwp, ucsC, uqC, uoC, ctC, rfd, KX7_readRowPart, KX7_readRowPart_0, KX7_readRowPart_4, KX7_readRowPart_13, KX7_readRowPart_22, KX7_readRowPart_28, KX7_readRowPart_32, KX7_readRowPart_36, KX7_readRowPart_41, KX7_readRowPart_50, KX7_readRowPart_60, KX7_readRowPart_77, lkC, s1C, s2C, dlC, kyC, Nat.beq, Nat.ble, rcd, rno, rsw, Nat.reduceAdd, Nat.reduceBEq, Nat.reduceDiv, List.drop, List.take, List.reverse, List.reverseAux, Int.toNat, Option.toList, List.append, List.cons_append, List.nil_append]
              intro w123 τ123 o123 q123
              obtain ⟨A123, B123, V123, rfl, hZ123, hf123, hs123⟩ : SeQ N E A B V z (stM N n z) σ w123 τ123 := q123 (N, E, A, B, V, z, n) ⟨_, rfl, hZ, by omega, (by rw [← p5_ (by omega) (by omega)]; exact hft)⟩
              have hF123 := FzC.tr (FzC.rf (n := cnC σ) (m := xnM z) (E := E) (A := A) (B := B) (V := V) (z := z) (σ := σ)) (FzC.mo hf123 (Nat.le_refl (cnC σ)) ((FzC.rf (n := cnC σ) (m := xnM z) (E := E) (A := A) (B := B) (V := V) (z := z) (σ := σ))).2.2.1.1.1)
              have hle123 : cnC σ ≤ cnC τ123 := Nat.le_trans (Nat.le_refl (cnC σ)) (hf123).1
              try dsimp only [Option.toList, List.cons_append, List.nil_append, s1C, s2C, dlC, kyC, Nat.beq, lkC, rcd, rno, rsw]
              try dsimp only [Qz_readRowPart]
              rw [p5_ (by omega) (by omega)]
              exact ⟨_, _, _, rfl, hZ123, hF123, hs123⟩
            · have g121 := (neI (x := r120) (y := 0) h121 : ¬ (r120 : Int32).toInt = (0 : Int32).toInt)
              have z0_ : (0 : Int32).toInt = 0 := rfl
              refine hB _ _ _ _ _ (fun m124 hm124 => ?_)
              dsimp only [ucgo, ucwp, ucsC, uqC, uoC, ctC, rfd, KX7_readRowPart, KX7_readRowPart_0, KX7_readRowPart_4, KX7_readRowPart_13, KX7_readRowPart_22, KX7_readRowPart_28, KX7_readRowPart_32, KX7_readRowPart_36, KX7_readRowPart_41, KX7_readRowPart_50, KX7_readRowPart_60, KX7_readRowPart_77, lkC, s1C, s2C, dlC, kyC, Nat.beq, Nat.ble, rcd, rno, rsw, Nat.reduceAdd, Nat.reduceBEq, Nat.reduceDiv, List.drop, List.take, List.reverse, List.reverseAux, Int.toNat, Option.toList, List.append, List.cons_append, List.nil_append]
              have c125 : (Int32.ofInt 91).toInt = 91 := by decide
              intro w126 τ126 o126 q126
              obtain ⟨A126, B126, V126, rfl, hZ126, hf126, hs126⟩ : SeQ N E A B V z (vaM N (snM z) n (vbM 1 91 n z)) σ w126 τ126 := q126 (N, E, A, B, V, z, n, 91, 1) ⟨_, _, rfl, hZ, by omega, by omega, (by omega), (GpY.z (gd_xp (c := 4) _) (hto (by omega) (by omega)))⟩
              have hF126 := FzC.tr (FzC.rf (n := cnC σ) (m := xnM z) (E := E) (A := A) (B := B) (V := V) (z := z) (σ := σ)) (FzC.mo hf126 (Nat.le_refl (cnC σ)) ((FzC.rf (n := cnC σ) (m := xnM z) (E := E) (A := A) (B := B) (V := V) (z := z) (σ := σ))).2.2.1.1.1)
              have hle126 : cnC σ ≤ cnC τ126 := Nat.le_trans (Nat.le_refl (cnC σ)) (hf126).1
              try dsimp only [Option.toList, List.cons_append, List.nil_append, s1C, s2C, dlC, kyC, Nat.beq, lkC, rcd, rno, rsw]
              have c127 : (Int32.ofInt 4).toInt = 4 := by decide
              intro w128 τ128 o128 q128
              obtain ⟨rfl, hZ128, hf128⟩ := q128 (N, E, A126, B126, V126, (vaM N (snM z) n (vbM 1 91 n z)), 4) ⟨_, rfl, hZ126, by omega, (hto (by omega) (by omega))⟩
              have hF128 := FzC.tr hF126 (FzC.mo hf128 hle126 (hF126).2.2.1.1.1)
              have hle128 : cnC σ ≤ cnC τ128 := Nat.le_trans hle126 (hf128).1
              have hb128_J : B126 (snM z) = (B126 (snM z)) := (hf128.2.2.2.1.1.2 (snM z) hs126).1.trans rfl
              have hl128_J : snM z < snM (xpM 4 (vaM N (snM z) n (vbM 1 91 n z))) := Nat.lt_of_lt_of_le hs126 hf128.2.2.2.1.1.1
              try dsimp only [Option.toList, List.cons_append, List.nil_append, s1C, s2C, dlC, kyC, Nat.beq, lkC, rcd, rno, rsw]
              try dsimp only [Qz_readRowPart]
              rw [p4_ (by omega) (by omega)]
              exact ⟨_, _, _, rfl, ZC.co hZ128, FzC.co hF128, hl128_J⟩
        · have g108 := (neI (x := p2) (y := 0) h108 : ¬ (p2 : Int32).toInt = (0 : Int32).toInt)
          have z0_ : (0 : Int32).toInt = 0 := rfl
          refine hB _ _ _ _ _ (fun m129 hm129 => ?_)
          dsimp only [ucgo, ucwp, ucsC, uqC, uoC, ctC, rfd, KX7_readRowPart, KX7_readRowPart_0, KX7_readRowPart_4, KX7_readRowPart_13, KX7_readRowPart_22, KX7_readRowPart_28, KX7_readRowPart_32, KX7_readRowPart_36, KX7_readRowPart_41, KX7_readRowPart_50, KX7_readRowPart_60, KX7_readRowPart_77, lkC, s1C, s2C, dlC, kyC, Nat.beq, Nat.ble, rcd, rno, rsw, Nat.reduceAdd, Nat.reduceBEq, Nat.reduceDiv, List.drop, List.take, List.reverse, List.reverseAux, Int.toNat, Option.toList, List.append, List.cons_append, List.nil_append]
          refine ⟨fun h130 => ?_, fun h130 => ?_⟩
          · have g130 := (eqI (x := p3) (y := 0) h130 : (p3 : Int32).toInt = (0 : Int32).toInt)
            have z0_ : (0 : Int32).toInt = 0 := rfl
            refine hB _ _ _ _ _ (fun m131 hm131 => ?_)
            dsimp only [ucgo, ucwp, ucsC, uqC, uoC, ctC, rfd, KX7_readRowPart, KX7_readRowPart_0, KX7_readRowPart_4, KX7_readRowPart_13, KX7_readRowPart_22, KX7_readRowPart_28, KX7_readRowPart_32, KX7_readRowPart_36, KX7_readRowPart_41, KX7_readRowPart_50, KX7_readRowPart_60, KX7_readRowPart_77, lkC, s1C, s2C, dlC, kyC, Nat.beq, Nat.ble, rcd, rno, rsw, Nat.reduceAdd, Nat.reduceBEq, Nat.reduceDiv, List.drop, List.take, List.reverse, List.reverseAux, Int.toNat, Option.toList, List.append, List.cons_append, List.nil_append]
            intro w132 τ132 o132 q132
            obtain ⟨c132, rfl, hc132, rfl⟩ := q132 (N, E, A, B, V, z) ⟨rfl, hZ⟩
            try dsimp only [Option.toList, List.cons_append, List.nil_append, s1C, s2C, dlC, kyC, Nat.beq, lkC, rcd, rno, rsw]
            have c133 : (Int32.ofInt 71).toInt = 71 := by decide
            refine ⟨fun h134 => ?_, fun h134 => ?_⟩
            · have g134 := (eqI (x := c132) (y := (Int32.ofInt 71)) h134 : (c132 : Int32).toInt = ((Int32.ofInt 71) : Int32).toInt)
              refine hB _ _ _ _ _ (fun m135 hm135 => ?_)
              dsimp only [ucgo, ucwp, ucsC, uqC, uoC, ctC, rfd, KX7_readRowPart, KX7_readRowPart_0, KX7_readRowPart_4, KX7_readRowPart_13, KX7_readRowPart_22, KX7_readRowPart_28, KX7_readRowPart_32, KX7_readRowPart_36, KX7_readRowPart_41, KX7_readRowPart_50, KX7_readRowPart_60, KX7_readRowPart_77, lkC, s1C, s2C, dlC, kyC, Nat.beq, Nat.ble, rcd, rno, rsw, Nat.reduceAdd, Nat.reduceBEq, Nat.reduceDiv, List.drop, List.take, List.reverse, List.reverseAux, Int.toNat, Option.toList, List.append, List.cons_append, List.nil_append]
              have c136 : (Int32.ofInt 91).toInt = 91 := by decide
              intro w137 τ137 o137 q137
              obtain ⟨A137, B137, V137, rfl, hZ137, hf137, hs137⟩ : SeQ N E A B V z (vaM N (snM z) n (vbM 1 91 n z)) σ w137 τ137 := q137 (N, E, A, B, V, z, n, 91, 1) ⟨_, _, rfl, hZ, by omega, by omega, (by omega), (GpY.z (gd_xp (c := 4) _) (hto (by omega) (by omega)))⟩
              have hF137 := FzC.tr (FzC.rf (n := cnC σ) (m := xnM z) (E := E) (A := A) (B := B) (V := V) (z := z) (σ := σ)) (FzC.mo hf137 (Nat.le_refl (cnC σ)) ((FzC.rf (n := cnC σ) (m := xnM z) (E := E) (A := A) (B := B) (V := V) (z := z) (σ := σ))).2.2.1.1.1)
              have hle137 : cnC σ ≤ cnC τ137 := Nat.le_trans (Nat.le_refl (cnC σ)) (hf137).1
              try dsimp only [Option.toList, List.cons_append, List.nil_append, s1C, s2C, dlC, kyC, Nat.beq, lkC, rcd, rno, rsw]
              have c138 : (Int32.ofInt 4).toInt = 4 := by decide
              intro w139 τ139 o139 q139
              obtain ⟨rfl, hZ139, hf139⟩ := q139 (N, E, A137, B137, V137, (vaM N (snM z) n (vbM 1 91 n z)), 4) ⟨_, rfl, hZ137, by omega, (hto (by omega) (by omega))⟩
              have hF139 := FzC.tr hF137 (FzC.mo hf139 hle137 (hF137).2.2.1.1.1)
              have hle139 : cnC σ ≤ cnC τ139 := Nat.le_trans hle137 (hf139).1
              have hb139_J : B137 (snM z) = (B137 (snM z)) := (hf139.2.2.2.1.1.2 (snM z) hs137).1.trans rfl
              have hl139_J : snM z < snM (xpM 4 (vaM N (snM z) n (vbM 1 91 n z))) := Nat.lt_of_lt_of_le hs137 hf139.2.2.2.1.1.1
              try dsimp only [Option.toList, List.cons_append, List.nil_append, s1C, s2C, dlC, kyC, Nat.beq, lkC, rcd, rno, rsw]
              try dsimp only [Qz_readRowPart]
              rw [p4_ (by omega) (by omega)]
              exact ⟨_, _, _, rfl, ZC.co hZ139, FzC.co hF139, hl139_J⟩
            · have g134 := (neI (x := c132) (y := (Int32.ofInt 71)) h134 : ¬ (c132 : Int32).toInt = ((Int32.ofInt 71) : Int32).toInt)
              refine hB _ _ _ _ _ (fun m140 hm140 => ?_)
              dsimp only [ucgo, ucwp, ucsC, uqC, uoC, ctC, rfd, KX7_readRowPart, KX7_readRowPart_0, KX7_readRowPart_4, KX7_readRowPart_13, KX7_readRowPart_22, KX7_readRowPart_28, KX7_readRowPart_32, KX7_readRowPart_36, KX7_readRowPart_41, KX7_readRowPart_50, KX7_readRowPart_60, KX7_readRowPart_77, lkC, s1C, s2C, dlC, kyC, Nat.beq, Nat.ble, rcd, rno, rsw, Nat.reduceAdd, Nat.reduceBEq, Nat.reduceDiv, List.drop, List.take, List.reverse, List.reverseAux, Int.toNat, Option.toList, List.append, List.cons_append, List.nil_append]
              intro w141 τ141 o141 q141
              obtain ⟨c141, rfl, hc141, rfl⟩ := q141 (N, E, A, B, V, z) ⟨rfl, hZ⟩
              try dsimp only [Option.toList, List.cons_append, List.nil_append, s1C, s2C, dlC, kyC, Nat.beq, lkC, rcd, rno, rsw]
              intro w142 τ142 o142 q142
              have qq142 := q142 (N, E, A, B, V, z) ⟨_, rfl⟩
              obtain ⟨r142, rfl, hr142, rfl⟩ : ∃ r, w142 = some (.inl r) ∧ ((r.toInt = 1 ∧ (50 ≤ (c141 : Int32).toInt ∧ (c141 : Int32).toInt ≤ 54)) ∨ (r.toInt = 0 ∧ ¬ (50 ≤ (c141 : Int32).toInt ∧ (c141 : Int32).toInt ≤ 54))) ∧ σ = τ142 := by
                rcases qq142 with ⟨r, h1, h2, h3, h4⟩ | ⟨r, h1, h2, h3, h4⟩
                · exact ⟨r, h1, Or.inl ⟨h2, h3⟩, h4⟩
                · exact ⟨r, h1, Or.inr ⟨h2, h3⟩, h4⟩
              try dsimp only [Option.toList, List.cons_append, List.nil_append, s1C, s2C, dlC, kyC, Nat.beq, lkC, rcd, rno, rsw]
              refine ⟨fun h143 => ?_, fun h143 => ?_⟩
              · have g143 := (eqI (x := r142) (y := 0) h143 : (r142 : Int32).toInt = (0 : Int32).toInt)
                have z0_ : (0 : Int32).toInt = 0 := rfl
                refine hB _ _ _ _ _ (fun m144 hm144 => ?_)
                dsimp only [ucgo, ucwp, ucsC, uqC, uoC, ctC, rfd, KX7_readRowPart, KX7_readRowPart_0, KX7_readRowPart_4, KX7_readRowPart_13, KX7_readRowPart_22, KX7_readRowPart_28, KX7_readRowPart_32, KX7_readRowPart_36, KX7_readRowPart_41, KX7_readRowPart_50, KX7_readRowPart_60, KX7_readRowPart_77, lkC, s1C, s2C, dlC, kyC, Nat.beq, Nat.ble, rcd, rno, rsw, Nat.reduceAdd, Nat.reduceBEq, Nat.reduceDiv, List.drop, List.take, List.reverse, List.reverseAux, Int.toNat, Option.toList, List.append, List.cons_append, List.nil_append]
                intro w145 τ145 o145 q145
                obtain ⟨A145, B145, V145, rfl, hZ145, hf145, hs145⟩ : SeQ N E A B V z (stM N n z) σ w145 τ145 := q145 (N, E, A, B, V, z, n) ⟨_, rfl, hZ, by omega, (by rw [← p5_ (by omega) (by omega)]; exact hft)⟩
                have hF145 := FzC.tr (FzC.rf (n := cnC σ) (m := xnM z) (E := E) (A := A) (B := B) (V := V) (z := z) (σ := σ)) (FzC.mo hf145 (Nat.le_refl (cnC σ)) ((FzC.rf (n := cnC σ) (m := xnM z) (E := E) (A := A) (B := B) (V := V) (z := z) (σ := σ))).2.2.1.1.1)
                have hle145 : cnC σ ≤ cnC τ145 := Nat.le_trans (Nat.le_refl (cnC σ)) (hf145).1
                try dsimp only [Option.toList, List.cons_append, List.nil_append, s1C, s2C, dlC, kyC, Nat.beq, lkC, rcd, rno, rsw]
                try dsimp only [Qz_readRowPart]
                rw [p5_ (by omega) (by omega)]
                exact ⟨_, _, _, rfl, hZ145, hF145, hs145⟩
              · have g143 := (neI (x := r142) (y := 0) h143 : ¬ (r142 : Int32).toInt = (0 : Int32).toInt)
                have z0_ : (0 : Int32).toInt = 0 := rfl
                refine hB _ _ _ _ _ (fun m146 hm146 => ?_)
                dsimp only [ucgo, ucwp, ucsC, uqC, uoC, ctC, rfd, KX7_readRowPart, KX7_readRowPart_0, KX7_readRowPart_4, KX7_readRowPart_13, KX7_readRowPart_22, KX7_readRowPart_28, KX7_readRowPart_32, KX7_readRowPart_36, KX7_readRowPart_41, KX7_readRowPart_50, KX7_readRowPart_60, KX7_readRowPart_77, lkC, s1C, s2C, dlC, kyC, Nat.beq, Nat.ble, rcd, rno, rsw, Nat.reduceAdd, Nat.reduceBEq, Nat.reduceDiv, List.drop, List.take, List.reverse, List.reverseAux, Int.toNat, Option.toList, List.append, List.cons_append, List.nil_append]
                have c147 : (Int32.ofInt 91).toInt = 91 := by decide
                intro w148 τ148 o148 q148
                obtain ⟨A148, B148, V148, rfl, hZ148, hf148, hs148⟩ : SeQ N E A B V z (vaM N (snM z) n (vbM 1 91 n z)) σ w148 τ148 := q148 (N, E, A, B, V, z, n, 91, 1) ⟨_, _, rfl, hZ, by omega, by omega, (by omega), (GpY.z (gd_xp (c := 4) _) (hto (by omega) (by omega)))⟩
                have hF148 := FzC.tr (FzC.rf (n := cnC σ) (m := xnM z) (E := E) (A := A) (B := B) (V := V) (z := z) (σ := σ)) (FzC.mo hf148 (Nat.le_refl (cnC σ)) ((FzC.rf (n := cnC σ) (m := xnM z) (E := E) (A := A) (B := B) (V := V) (z := z) (σ := σ))).2.2.1.1.1)
                have hle148 : cnC σ ≤ cnC τ148 := Nat.le_trans (Nat.le_refl (cnC σ)) (hf148).1
                try dsimp only [Option.toList, List.cons_append, List.nil_append, s1C, s2C, dlC, kyC, Nat.beq, lkC, rcd, rno, rsw]
                have c149 : (Int32.ofInt 4).toInt = 4 := by decide
                intro w150 τ150 o150 q150
                obtain ⟨rfl, hZ150, hf150⟩ := q150 (N, E, A148, B148, V148, (vaM N (snM z) n (vbM 1 91 n z)), 4) ⟨_, rfl, hZ148, by omega, (hto (by omega) (by omega))⟩
                have hF150 := FzC.tr hF148 (FzC.mo hf150 hle148 (hF148).2.2.1.1.1)
                have hle150 : cnC σ ≤ cnC τ150 := Nat.le_trans hle148 (hf150).1
                have hb150_J : B148 (snM z) = (B148 (snM z)) := (hf150.2.2.2.1.1.2 (snM z) hs148).1.trans rfl
                have hl150_J : snM z < snM (xpM 4 (vaM N (snM z) n (vbM 1 91 n z))) := Nat.lt_of_lt_of_le hs148 hf150.2.2.2.1.1.1
                try dsimp only [Option.toList, List.cons_append, List.nil_append, s1C, s2C, dlC, kyC, Nat.beq, lkC, rcd, rno, rsw]
                try dsimp only [Qz_readRowPart]
                rw [p4_ (by omega) (by omega)]
                exact ⟨_, _, _, rfl, ZC.co hZ150, FzC.co hF150, hl150_J⟩
          · have g130 := (neI (x := p3) (y := 0) h130 : ¬ (p3 : Int32).toInt = (0 : Int32).toInt)
            have z0_ : (0 : Int32).toInt = 0 := rfl
            exfalso
            exact p2_ (by omega) (by omega) (by omega)
      · have g106 := (eqI (x := c104) (y := (Int32.ofInt 63)) h106 : (c104 : Int32).toInt = ((Int32.ofInt 63) : Int32).toInt)
        refine hB _ _ _ _ _ (fun m151 hm151 => ?_)
        dsimp only [ucgo, ucwp, ucsC, uqC, uoC, ctC, rfd, KX7_readRowPart, KX7_readRowPart_0, KX7_readRowPart_4, KX7_readRowPart_13, KX7_readRowPart_22, KX7_readRowPart_28, KX7_readRowPart_32, KX7_readRowPart_36, KX7_readRowPart_41, KX7_readRowPart_50, KX7_readRowPart_60, KX7_readRowPart_77, lkC, s1C, s2C, dlC, kyC, Nat.beq, Nat.ble, rcd, rno, rsw, Nat.reduceAdd, Nat.reduceBEq, Nat.reduceDiv, List.drop, List.take, List.reverse, List.reverseAux, Int.toNat, Option.toList, List.append, List.cons_append, List.nil_append]
        intro w152 τ152 o152 q152
        obtain ⟨A152, B152, V152, rfl, hZ152, hf152, hs152⟩ : SeQ N E A B V z (csM N (js : Int) n z) σ w152 τ152 := q152 (N, E, A, B, V, z, n, (js : Int)) ⟨_, rfl, hZ, by omega, by omega, (by omega), (by rw [← p1_ (by omega) (by omega)]; exact hft)⟩
        have hF152 := FzC.tr (FzC.rf (n := cnC σ) (m := xnM z) (E := E) (A := A) (B := B) (V := V) (z := z) (σ := σ)) (FzC.mo hf152 (Nat.le_refl (cnC σ)) ((FzC.rf (n := cnC σ) (m := xnM z) (E := E) (A := A) (B := B) (V := V) (z := z) (σ := σ))).2.2.1.1.1)
        have hle152 : cnC σ ≤ cnC τ152 := Nat.le_trans (Nat.le_refl (cnC σ)) (hf152).1
        try dsimp only [Option.toList, List.cons_append, List.nil_append, s1C, s2C, dlC, kyC, Nat.beq, lkC, rcd, rno, rsw]
        try dsimp only [Qz_readRowPart]
        rw [p1_ (by omega) (by omega)]
        exact ⟨_, _, _, rfl, hZ152, hF152, hs152⟩
set_option maxHeartbeats 4000000 in
theorem pz_readRow (y : (Int → Int) × (Nat → Nat) × (Nat → Nat) × (Nat → Nat) × (Nat → Nat) × ZS × Nat × Int × Nat) : PbC KX7_readRow [(131, TrP, EqC 131), (125, TrP, EqC 125), (146, TrP, EqC 146)] [(131, Uz_isTooDeep), (125, Uz_code), (146, Uz_readRowPart)] (fun As σ => Pz_readRow y As σ ∧ cnC σ ≤ 1000000 ∧ ∃ w τ, uqC quL 145 As σ w τ) (Qz_readRow y) := by
  obtain ⟨N, E, A, B, V, z, n, sw, js⟩ := y
  rintro As σ ⟨⟨p1, p2, rfl, hZ, hd, hp2, hsw, hft⟩, hcn, _, _, hQ⟩ K hB hW n_
  have hH : HI0 σ ∧ TyC σ (E 0) 8 := hQ
  have hat := hZ.at0 hH
  have hn : 1 ≤ n := rw_n hft
  have L14 : ∀ (k : Nat) (υ : CsC) (Y W U : Nat → Nat) (v : ZS) (f l : Int) (fo lo : Option Nat) (i : Int32), RwR N E A B V z σ υ Y W U v f l fo lo → 0 ≤ i.toInt → i.toInt ≤ 501 → rwlM N n (stM N n) sw js (501 - i.toInt).toNat f l v = (rwM N n sw js z) → K k 14 [(0, .inr (.inr (some (E 0)))), (1, .inl p1), (2, .inl p2), (3, .inr (.inr fo)), (4, .inr (.inr lo)), (5, .inl i)] [] υ := by
    intro k
    induction k using Nat.strongRecOn with
    | _ k ih =>
      intro υ Y W U v f l fo lo i hR hi0 hi1 hP
      refine hB _ _ _ _ _ (fun m51 hm51 => ?_)
      dsimp only [ucgo, ucwp, ucsC, uqC, uoC, ctC, rfd, KX7_readRow, KX7_readRow_0, KX7_readRow_14, KX7_readRow_22, KX7_readRow_29, KX7_readRow_37, KX7_readRow_44, KX7_readRow_48, KX7_readRow_49, KX7_readRow_59, KX7_readRow_65, KX7_readRow_72, KX7_readRow_82, lkC, s1C, s2C, dlC, kyC, Nat.beq, Nat.ble, rcd, rno, rsw, Nat.reduceAdd, Nat.reduceBEq, Nat.reduceDiv, List.drop, List.take, List.reverse, List.reverseAux, Int.toNat, Option.toList, List.append, List.cons_append, List.nil_append, zg243]
      have c52 : (Int32.ofInt 500).toInt = 500 := by decide
      refine ⟨fun h53 => ?_, fun h53 => ?_⟩
      · have g53 := ltI (x := (Int32.ofInt 500)) (y := i) h53
        refine hB _ _ _ _ _ (fun m54 hm54 => ?_)
        dsimp only [ucgo, ucwp, ucsC, uqC, uoC, ctC, rfd, KX7_readRow, KX7_readRow_0, KX7_readRow_14, KX7_readRow_22, KX7_readRow_29, KX7_readRow_37, KX7_readRow_44, KX7_readRow_48, KX7_readRow_49, KX7_readRow_59, KX7_readRow_65, KX7_readRow_72, KX7_readRow_82, lkC, s1C, s2C, dlC, kyC, Nat.beq, Nat.ble, rcd, rno, rsw, Nat.reduceAdd, Nat.reduceBEq, Nat.reduceDiv, List.drop, List.take, List.reverse, List.reverseAux, Int.toNat, Option.toList, List.append, List.cons_append, List.nil_append, zg243]
        try dsimp only [Qz_readRow]
        have hE : (v, f) = (rwM N n sw js z) := by
          first
            | (rw [show (501 - i.toInt).toNat = 0 by omega] at hP; exact hP)
            | (rw [show (501 - i.toInt).toNat = (500 - i.toInt).toNat + 1 by omega, rwlM, if_neg (by omega)] at hP; exact hP)
            | (rw [show (501 - i.toInt).toNat = (500 - i.toInt).toNat + 1 by omega, rwlM, if_pos (by omega), if_pos (by omega)] at hP; exact hP)
        rw [← hE]
        exact ⟨Y, W, U, by rw [hR.2.1.1], hR.1.1, hR.1.2, hR.2.1.2⟩
      · have g53 := nltI (x := (Int32.ofInt 500)) (y := i) h53
        refine hB _ _ _ _ _ (fun m55 hm55 => ?_)
        dsimp only [ucgo, ucwp, ucsC, uqC, uoC, ctC, rfd, KX7_readRow, KX7_readRow_0, KX7_readRow_14, KX7_readRow_22, KX7_readRow_29, KX7_readRow_37, KX7_readRow_44, KX7_readRow_48, KX7_readRow_49, KX7_readRow_59, KX7_readRow_65, KX7_readRow_72, KX7_readRow_82, lkC, s1C, s2C, dlC, kyC, Nat.beq, Nat.ble, rcd, rno, rsw, Nat.reduceAdd, Nat.reduceBEq, Nat.reduceDiv, List.drop, List.take, List.reverse, List.reverseAux, Int.toNat, Option.toList, List.append, List.cons_append, List.nil_append, zg243]
        intro a56 e56 ob56
        cases e56
        have f57 : (fIC υ (E 0) 243).toInt = zFt v.1 := hR.1.1.2.1.1.2
        refine ⟨fun h58 => ?_, fun h58 => ?_⟩
        · have g58 := (neI (x := (fIC υ (E 0) 243)) (y := 0) h58 : ¬ ((fIC υ (E 0) 243) : Int32).toInt = (0 : Int32).toInt)
          have z0_ : (0 : Int32).toInt = 0 := rfl
          refine hB _ _ _ _ _ (fun m59 hm59 => ?_)
          dsimp only [ucgo, ucwp, ucsC, uqC, uoC, ctC, rfd, KX7_readRow, KX7_readRow_0, KX7_readRow_14, KX7_readRow_22, KX7_readRow_29, KX7_readRow_37, KX7_readRow_44, KX7_readRow_48, KX7_readRow_49, KX7_readRow_59, KX7_readRow_65, KX7_readRow_72, KX7_readRow_82, lkC, s1C, s2C, dlC, kyC, Nat.beq, Nat.ble, rcd, rno, rsw, Nat.reduceAdd, Nat.reduceBEq, Nat.reduceDiv, List.drop, List.take, List.reverse, List.reverseAux, Int.toNat, Option.toList, List.append, List.cons_append, List.nil_append, zg243]
          try dsimp only [Qz_readRow]
          have hE : (v, f) = (rwM N n sw js z) := by
            first
              | (rw [show (501 - i.toInt).toNat = 0 by omega] at hP; exact hP)
              | (rw [show (501 - i.toInt).toNat = (500 - i.toInt).toNat + 1 by omega, rwlM, if_neg (by omega)] at hP; exact hP)
              | (rw [show (501 - i.toInt).toNat = (500 - i.toInt).toNat + 1 by omega, rwlM, if_pos (by omega), if_pos (by omega)] at hP; exact hP)
          rw [← hE]
          exact ⟨Y, W, U, by rw [hR.2.1.1], hR.1.1, hR.1.2, hR.2.1.2⟩
        · have g58 := (eqI (x := (fIC υ (E 0) 243)) (y := 0) h58 : ((fIC υ (E 0) 243) : Int32).toInt = (0 : Int32).toInt)
          have z0_ : (0 : Int32).toInt = 0 := rfl
          refine hB _ _ _ _ _ (fun m60 hm60 => ?_)
          dsimp only [ucgo, ucwp, ucsC, uqC, uoC, ctC, rfd, KX7_readRow, KX7_readRow_0, KX7_readRow_14, KX7_readRow_22, KX7_readRow_29, KX7_readRow_37, KX7_readRow_44, KX7_readRow_48, KX7_readRow_49, KX7_readRow_59, KX7_readRow_65, KX7_readRow_72, KX7_readRow_82, lkC, s1C, s2C, dlC, kyC, Nat.beq, Nat.ble, rcd, rno, rsw, Nat.reduceAdd, Nat.reduceBEq, Nat.reduceDiv, List.drop, List.take, List.reverse, List.reverseAux, Int.toNat, Option.toList, List.append, List.cons_append, List.nil_append, zg243]
          intro w61 τ61 o61 q61
          obtain ⟨c61, rfl, hc61, rfl⟩ := q61 (N, E, Y, W, U, v) ⟨rfl, hR.1.1⟩
          try dsimp only [Option.toList, List.cons_append, List.nil_append, s1C, s2C, dlC, kyC, Nat.beq, lkC, rcd, rno, rsw]
          have c62 : (Int32.ofInt 3).toInt = 3 := by decide
          refine ⟨fun h63 => ?_, fun h63 => ?_⟩
          · have g63 := (eqI (x := c61) (y := (Int32.ofInt 3)) h63 : (c61 : Int32).toInt = ((Int32.ofInt 3) : Int32).toInt)
            refine hB _ _ _ _ _ (fun m64 hm64 => ?_)
            dsimp only [ucgo, ucwp, ucsC, uqC, uoC, ctC, rfd, KX7_readRow, KX7_readRow_0, KX7_readRow_14, KX7_readRow_22, KX7_readRow_29, KX7_readRow_37, KX7_readRow_44, KX7_readRow_48, KX7_readRow_49, KX7_readRow_59, KX7_readRow_65, KX7_readRow_72, KX7_readRow_82, lkC, s1C, s2C, dlC, kyC, Nat.beq, Nat.ble, rcd, rno, rsw, Nat.reduceAdd, Nat.reduceBEq, Nat.reduceDiv, List.drop, List.take, List.reverse, List.reverseAux, Int.toNat, Option.toList, List.append, List.cons_append, List.nil_append, zg243]
            try dsimp only [Qz_readRow]
            have hE : (v, f) = (rwM N n sw js z) := by
              first
                | (rw [show (501 - i.toInt).toNat = 0 by omega] at hP; exact hP)
                | (rw [show (501 - i.toInt).toNat = (500 - i.toInt).toNat + 1 by omega, rwlM, if_neg (by omega)] at hP; exact hP)
                | (rw [show (501 - i.toInt).toNat = (500 - i.toInt).toNat + 1 by omega, rwlM, if_pos (by omega), if_pos (by omega)] at hP; exact hP)
            rw [← hE]
            exact ⟨Y, W, U, by rw [hR.2.1.1], hR.1.1, hR.1.2, hR.2.1.2⟩
          · have g63 := (neI (x := c61) (y := (Int32.ofInt 3)) h63 : ¬ (c61 : Int32).toInt = ((Int32.ofInt 3) : Int32).toInt)
            refine hB _ _ _ _ _ (fun m65 hm65 => ?_)
            dsimp only [ucgo, ucwp, ucsC, uqC, uoC, ctC, rfd, KX7_readRow, KX7_readRow_0, KX7_readRow_14, KX7_readRow_22, KX7_readRow_29, KX7_readRow_37, KX7_readRow_44, KX7_readRow_48, KX7_readRow_49, KX7_readRow_59, KX7_readRow_65, KX7_readRow_72, KX7_readRow_82, lkC, s1C, s2C, dlC, kyC, Nat.beq, Nat.ble, rcd, rno, rsw, Nat.reduceAdd, Nat.reduceBEq, Nat.reduceDiv, List.drop, List.take, List.reverse, List.reverseAux, Int.toNat, Option.toList, List.append, List.cons_append, List.nil_append, zg243]
            refine ⟨fun b66 h66 => ?_, fun h66 => ?_⟩
            · have hf9 : ¬ f < 0 := by have := (opA_1 (hR.2.1.1.symm.trans h66)).1; omega
              refine hB _ _ _ _ _ (fun m67 hm67 => ?_)
              dsimp only [ucgo, ucwp, ucsC, uqC, uoC, ctC, rfd, KX7_readRow, KX7_readRow_0, KX7_readRow_14, KX7_readRow_22, KX7_readRow_29, KX7_readRow_37, KX7_readRow_44, KX7_readRow_48, KX7_readRow_49, KX7_readRow_59, KX7_readRow_65, KX7_readRow_72, KX7_readRow_82, lkC, s1C, s2C, dlC, kyC, Nat.beq, Nat.ble, rcd, rno, rsw, Nat.reduceAdd, Nat.reduceBEq, Nat.reduceDiv, List.drop, List.take, List.reverse, List.reverseAux, Int.toNat, Option.toList, List.append, List.cons_append, List.nil_append, zg243]
              have c68 : (Int32.ofInt 0).toInt = 0 := by decide
              refine hB _ _ _ _ _ (fun m69 hm69 => ?_)
              dsimp only [ucgo, ucwp, ucsC, uqC, uoC, ctC, rfd, KX7_readRow, KX7_readRow_0, KX7_readRow_14, KX7_readRow_22, KX7_readRow_29, KX7_readRow_37, KX7_readRow_44, KX7_readRow_48, KX7_readRow_49, KX7_readRow_59, KX7_readRow_65, KX7_readRow_72, KX7_readRow_82, lkC, s1C, s2C, dlC, kyC, Nat.beq, Nat.ble, rcd, rno, rsw, Nat.reduceAdd, Nat.reduceBEq, Nat.reduceDiv, List.drop, List.take, List.reverse, List.reverseAux, Int.toNat, Option.toList, List.append, List.cons_append, List.nil_append, zg243]
              intro w70 τ70 o70 q70
              have hP3 : rwlM N n (stM N n) sw js (500 - i.toInt).toNat (if f < 0 then (snM v : Int) else f) (snM v) (nxM l (snM v) (rpM N n (stM N n) sw js (if f < 0 then 1 else 0) v)) = (rwM N n sw js z) := by
                rw [show (501 - i.toInt).toNat = (500 - i.toInt).toNat + 1 by omega, rwlM, if_pos (by omega), if_neg (by omega)] at hP
                exact hP
              rw [if_neg (show ¬ f < 0 by omega)] at hP3
              rw [if_neg (show ¬ f < 0 by omega)] at hP3
              have hfp : zFt (rpM N n (stM N n) sw js 0 v).1 = 0 := by
                have h9 := hft
                rw [← hP3, lf_rwl lf_st] at h9
                have h8 := (gd_rwl gd_st _ _ _).z h9
                rw [lf_nx] at h8
                exact h8
              obtain ⟨A70, B70, V70, rfl, hZ70, hf70, hs70⟩ : SeQ N E Y W U v (rpM N n (stM N n) sw js 0 v) υ w70 τ70 := q70 (N, E, Y, W, U, v, n, sw, js, 0) ⟨_, _, _, rfl, hR.1.1, by omega, by omega, (by omega), (by omega), ⟨by omega, by omega⟩, hfp⟩
              have hF70 := FzC.tr hR.1.2 (FzC.mo hf70 hR.2.2.2.2 (hR.1.2).2.2.1.1.1)
              have hle70 : cnC σ ≤ cnC τ70 := Nat.le_trans hR.2.2.2.2 (hf70).1
              try dsimp only [Option.toList, List.cons_append, List.nil_append, s1C, s2C, dlC, kyC, Nat.beq, lkC, rcd, rno, rsw]
              refine ⟨fun b71 h71 => ?_, fun h71 => ?_⟩
              · subst h71
                obtain ⟨hl9, hlb⟩ := opA_1 hR.2.2.1.1.symm
                have hlb2 : B70 l.toNat = b71 := (hf70.2.2.2.1.1.2 l.toNat (by have := hR.2.2.1.2; omega)).1.trans hlb
                have hll : l.toNat < snM (rpM N n (stM N n) sw js 0 v) := Nat.lt_of_lt_of_le (by have := hR.2.2.1.2; omega) hf70.2.2.2.1.1.1
                have hlo : cnC σ ≤ b71 := by rw [← hlb]; exact hR.2.2.2.1.2 hl9
                refine hB _ _ _ _ _ (fun m72 hm72 => ?_)
                dsimp only [ucgo, ucwp, ucsC, uqC, uoC, ctC, rfd, KX7_readRow, KX7_readRow_0, KX7_readRow_14, KX7_readRow_22, KX7_readRow_29, KX7_readRow_37, KX7_readRow_44, KX7_readRow_48, KX7_readRow_49, KX7_readRow_59, KX7_readRow_65, KX7_readRow_72, KX7_readRow_82, lkC, s1C, s2C, dlC, kyC, Nat.beq, Nat.ble, rcd, rno, rsw, Nat.reduceAdd, Nat.reduceBEq, Nat.reduceDiv, List.drop, List.take, List.reverse, List.reverseAux, Int.toNat, Option.toList, List.append, List.cons_append, List.nil_append, zg243]
                intro a73 e73 ob73 fk73
                cases e73
                clear fk73 ob73
                generalize hs73 : pRC τ70 b71 275 (some (B70 (snM v))) = s73
                have hx73 : SfE b71 τ70 s73 := by rw [← hs73]; exact SfE.pR (by decide)
                have hZ73 : ZC N E A70 B70 V70 s73 (seM (l.toNat) (sNx ((snM v : Nat) : Int)) (rpM N n (stM N n) sw js 0 v)) := by rw [← hs73]; exact ZC.s275 hZ70 hll hlb2 (opA_k).symm (Int.ofNat_lt.mpr hs70)
                have hF73 : FzC (cnC σ) (xnM z) E A A70 B B70 V V70 z (seM (l.toNat) (sNx ((snM v : Nat) : Int)) (rpM N n (stM N n) sw js 0 v)) σ s73 := FzC.se hF70 hlo hx73 (fun _ => ⟨rfl, rfl⟩)
                have hle73 : cnC σ ≤ cnC s73 := by rw [hx73.2.2]; exact hle70
                have hZ74 : ZC N E A70 B70 V70 s73 (nxM l (snM v) (rpM N n (stM N n) sw js 0 v)) := (by unfold nxM; rw [if_neg (by omega)]; exact hZ73)
                have hF74 : FzC (cnC σ) (xnM z) E A A70 B B70 V V70 z (nxM l (snM v) (rpM N n (stM N n) sw js 0 v)) σ s73 := (by unfold nxM; rw [if_neg (by omega)]; exact hF73)
                refine hB _ _ _ _ _ (fun m75 hm75 => ?_)
                dsimp only [ucgo, ucwp, ucsC, uqC, uoC, ctC, rfd, KX7_readRow, KX7_readRow_0, KX7_readRow_14, KX7_readRow_22, KX7_readRow_29, KX7_readRow_37, KX7_readRow_44, KX7_readRow_48, KX7_readRow_49, KX7_readRow_59, KX7_readRow_65, KX7_readRow_72, KX7_readRow_82, lkC, s1C, s2C, dlC, kyC, Nat.beq, Nat.ble, rcd, rno, rsw, Nat.reduceAdd, Nat.reduceBEq, Nat.reduceDiv, List.drop, List.take, List.reverse, List.reverseAux, Int.toNat, Option.toList, List.append, List.cons_append, List.nil_append, zg243]
                have c76 : (Int32.ofInt 1).toInt = 1 := by decide
                have u77 := tiC i
                have a77 : (i + (Int32.ofInt 1)).toInt = i.toInt + 1 := addC (by omega) (by omega) (by omega)
                exact hW _ 14 [(0, .inr (.inr (some (E 0)))), (1, .inl p1), (2, .inl p2), (3, .inr (.inr fo)), (4, .inr (.inr (some (B70 (snM v))))), (5, .inl (i + (Int32.ofInt 1)))] _ _ _ (List.forall_mem_cons.2 ⟨List.Mem.tail _ (List.Mem.tail _ (List.Mem.tail _ (List.Mem.head _))), List.forall_mem_cons.2 ⟨List.Mem.tail _ (List.Mem.tail _ (List.Mem.tail _ (List.Mem.tail _ (List.Mem.head _)))), List.forall_mem_cons.2 ⟨List.Mem.tail _ (List.Mem.tail _ (List.Mem.tail _ (List.Mem.tail _ (List.Mem.tail _ (List.Mem.head _))))), List.forall_mem_cons.2 ⟨List.Mem.tail _ (List.Mem.tail _ (List.Mem.tail _ (List.Mem.tail _ (List.Mem.tail _ (List.Mem.tail _ (List.Mem.head _)))))), List.forall_mem_cons.2 ⟨List.Mem.tail _ (List.Mem.head _), List.forall_mem_cons.2 ⟨List.Mem.head _, fun _ h => absurd h List.not_mem_nil⟩⟩⟩⟩⟩⟩) (ih _ (by omega) _ _ _ _ _ f ((snM v : Nat) : Int) _ _ _ ⟨⟨hZ74, hF74⟩, ⟨hR.2.1.1.trans (opA_c (fun i hi => (hf70.2.2.2.1.1.2 i hi).1) hR.2.1.2).symm, by have := (show snM v < snM (nxM l (snM v) (rpM N n (stM N n) sw js 0 v)) by unfold nxM; split <;> exact hs70); have := hR.2.1.2; omega⟩, ⟨(opA_k).symm, by have := (show snM v < snM (nxM l (snM v) (rpM N n (stM N n) sw js 0 v)) by unfold nxM; split <;> exact hs70); omega⟩, ⟨by omega, fun _ => by rw [Int.toNat_natCast]; exact (Nat.le_trans hR.2.2.2.2 (hf70.2.2.2.1.2 (snM v) (Nat.le_refl _) hs70))⟩, hle73⟩ (by omega) (by omega) (by rw [show (501 - (i + (Int32.ofInt 1)).toInt).toNat = (500 - i.toInt).toNat by omega]; exact hP3))
              · exfalso
                have q9 := hR.2.2.2.1.1
                have q8 := opA_0 (hR.2.2.1.1.symm.trans h71)
                omega
            · have hf9 : f < 0 := opA_0 (hR.2.1.1.symm.trans h66)
              refine hB _ _ _ _ _ (fun m78 hm78 => ?_)
              dsimp only [ucgo, ucwp, ucsC, uqC, uoC, ctC, rfd, KX7_readRow, KX7_readRow_0, KX7_readRow_14, KX7_readRow_22, KX7_readRow_29, KX7_readRow_37, KX7_readRow_44, KX7_readRow_48, KX7_readRow_49, KX7_readRow_59, KX7_readRow_65, KX7_readRow_72, KX7_readRow_82, lkC, s1C, s2C, dlC, kyC, Nat.beq, Nat.ble, rcd, rno, rsw, Nat.reduceAdd, Nat.reduceBEq, Nat.reduceDiv, List.drop, List.take, List.reverse, List.reverseAux, Int.toNat, Option.toList, List.append, List.cons_append, List.nil_append, zg243]
              have c79 : (Int32.ofInt 1).toInt = 1 := by decide
              refine hB _ _ _ _ _ (fun m80 hm80 => ?_)
              dsimp only [ucgo, ucwp, ucsC, uqC, uoC, ctC, rfd, KX7_readRow, KX7_readRow_0, KX7_readRow_14, KX7_readRow_22, KX7_readRow_29, KX7_readRow_37, KX7_readRow_44, KX7_readRow_48, KX7_readRow_49, KX7_readRow_59, KX7_readRow_65, KX7_readRow_72, KX7_readRow_82, lkC, s1C, s2C, dlC, kyC, Nat.beq, Nat.ble, rcd, rno, rsw, Nat.reduceAdd, Nat.reduceBEq, Nat.reduceDiv, List.drop, List.take, List.reverse, List.reverseAux, Int.toNat, Option.toList, List.append, List.cons_append, List.nil_append, zg243]
              intro w81 τ81 o81 q81
              have hP3 : rwlM N n (stM N n) sw js (500 - i.toInt).toNat (if f < 0 then (snM v : Int) else f) (snM v) (nxM l (snM v) (rpM N n (stM N n) sw js (if f < 0 then 1 else 0) v)) = (rwM N n sw js z) := by
                rw [show (501 - i.toInt).toNat = (500 - i.toInt).toNat + 1 by omega, rwlM, if_pos (by omega), if_neg (by omega)] at hP
                exact hP
              rw [if_pos (show f < 0 by omega)] at hP3
              rw [if_pos (show f < 0 by omega)] at hP3
              have hfp : zFt (rpM N n (stM N n) sw js 1 v).1 = 0 := by
                have h9 := hft
                rw [← hP3, lf_rwl lf_st] at h9
                have h8 := (gd_rwl gd_st _ _ _).z h9
                rw [lf_nx] at h8
                exact h8
              obtain ⟨A81, B81, V81, rfl, hZ81, hf81, hs81⟩ : SeQ N E Y W U v (rpM N n (stM N n) sw js 1 v) υ w81 τ81 := q81 (N, E, Y, W, U, v, n, sw, js, 1) ⟨_, _, _, rfl, hR.1.1, by omega, by omega, (by omega), (by omega), ⟨by omega, by omega⟩, hfp⟩
              have hF81 := FzC.tr hR.1.2 (FzC.mo hf81 hR.2.2.2.2 (hR.1.2).2.2.1.1.1)
              have hle81 : cnC σ ≤ cnC τ81 := Nat.le_trans hR.2.2.2.2 (hf81).1
              try dsimp only [Option.toList, List.cons_append, List.nil_append, s1C, s2C, dlC, kyC, Nat.beq, lkC, rcd, rno, rsw]
              refine ⟨fun b82 h82 => ?_, fun h82 => ?_⟩
              · exfalso
                have q9 := hR.2.2.2.1.1
                have q8 := (opA_1 (hR.2.2.1.1.symm.trans h82)).1
                omega
              · have hl9 : l < 0 := opA_0 (hR.2.2.1.1.symm.trans h82)
                have hZ83 : ZC N E A81 B81 V81 τ81 (nxM l (snM v) (rpM N n (stM N n) sw js 1 v)) := (by unfold nxM; rw [if_pos hl9]; exact hZ81)
                have hF83 : FzC (cnC σ) (xnM z) E A A81 B B81 V V81 z (nxM l (snM v) (rpM N n (stM N n) sw js 1 v)) σ τ81 := (by unfold nxM; rw [if_pos hl9]; exact hF81)
                refine hB _ _ _ _ _ (fun m84 hm84 => ?_)
                dsimp only [ucgo, ucwp, ucsC, uqC, uoC, ctC, rfd, KX7_readRow, KX7_readRow_0, KX7_readRow_14, KX7_readRow_22, KX7_readRow_29, KX7_readRow_37, KX7_readRow_44, KX7_readRow_48, KX7_readRow_49, KX7_readRow_59, KX7_readRow_65, KX7_readRow_72, KX7_readRow_82, lkC, s1C, s2C, dlC, kyC, Nat.beq, Nat.ble, rcd, rno, rsw, Nat.reduceAdd, Nat.reduceBEq, Nat.reduceDiv, List.drop, List.take, List.reverse, List.reverseAux, Int.toNat, Option.toList, List.append, List.cons_append, List.nil_append, zg243]
                refine hB _ _ _ _ _ (fun m85 hm85 => ?_)
                dsimp only [ucgo, ucwp, ucsC, uqC, uoC, ctC, rfd, KX7_readRow, KX7_readRow_0, KX7_readRow_14, KX7_readRow_22, KX7_readRow_29, KX7_readRow_37, KX7_readRow_44, KX7_readRow_48, KX7_readRow_49, KX7_readRow_59, KX7_readRow_65, KX7_readRow_72, KX7_readRow_82, lkC, s1C, s2C, dlC, kyC, Nat.beq, Nat.ble, rcd, rno, rsw, Nat.reduceAdd, Nat.reduceBEq, Nat.reduceDiv, List.drop, List.take, List.reverse, List.reverseAux, Int.toNat, Option.toList, List.append, List.cons_append, List.nil_append, zg243]
                have c86 : (Int32.ofInt 1).toInt = 1 := by decide
                have u87 := tiC i
                have a87 : (i + (Int32.ofInt 1)).toInt = i.toInt + 1 := addC (by omega) (by omega) (by omega)
                exact hW _ 14 [(0, .inr (.inr (some (E 0)))), (1, .inl p1), (2, .inl p2), (3, .inr (.inr (some (B81 (snM v))))), (4, .inr (.inr (some (B81 (snM v))))), (5, .inl (i + (Int32.ofInt 1)))] _ _ _ (List.forall_mem_cons.2 ⟨List.Mem.tail _ (List.Mem.tail _ (List.Mem.tail _ (List.Mem.tail _ (List.Mem.head _)))), List.forall_mem_cons.2 ⟨List.Mem.tail _ (List.Mem.tail _ (List.Mem.tail _ (List.Mem.tail _ (List.Mem.tail _ (List.Mem.head _))))), List.forall_mem_cons.2 ⟨List.Mem.tail _ (List.Mem.tail _ (List.Mem.tail _ (List.Mem.tail _ (List.Mem.tail _ (List.Mem.tail _ (List.Mem.head _)))))), List.forall_mem_cons.2 ⟨List.Mem.tail _ (List.Mem.tail _ (List.Mem.head _)), List.forall_mem_cons.2 ⟨List.Mem.tail _ (List.Mem.head _), List.forall_mem_cons.2 ⟨List.Mem.head _, fun _ h => absurd h List.not_mem_nil⟩⟩⟩⟩⟩⟩) (ih _ (by omega) _ _ _ _ _ ((snM v : Nat) : Int) ((snM v : Nat) : Int) _ _ _ ⟨⟨hZ83, hF83⟩, ⟨(opA_k).symm, by have := (show snM v < snM (nxM l (snM v) (rpM N n (stM N n) sw js 1 v)) by unfold nxM; split <;> exact hs81); omega⟩, ⟨(opA_k).symm, by have := (show snM v < snM (nxM l (snM v) (rpM N n (stM N n) sw js 1 v)) by unfold nxM; split <;> exact hs81); omega⟩, ⟨by omega, fun _ => by rw [Int.toNat_natCast]; exact (Nat.le_trans hR.2.2.2.2 (hf81.2.2.2.1.2 (snM v) (Nat.le_refl _) hs81))⟩, hle81⟩ (by omega) (by omega) (by rw [show (501 - (i + (Int32.ofInt 1)).toInt).toNat = (500 - i.toInt).toNat by omega]; exact hP3))
  change K n_ 0 [(0, .inr (.inr (some (E 0)))), (1, .inl p1), (2, .inl p2)] [] σ
  refine hB _ _ _ _ _ (fun m51 hm51 => ?_)
  dsimp only [ucgo, ucwp, ucsC, uqC, uoC, ctC, rfd, KX7_readRow, KX7_readRow_0, KX7_readRow_14, KX7_readRow_22, KX7_readRow_29, KX7_readRow_37, KX7_readRow_44, KX7_readRow_48, KX7_readRow_49, KX7_readRow_59, KX7_readRow_65, KX7_readRow_72, KX7_readRow_82, lkC, s1C, s2C, dlC, kyC, Nat.beq, Nat.ble, rcd, rno, rsw, Nat.reduceAdd, Nat.reduceBEq, Nat.reduceDiv, List.drop, List.take, List.reverse, List.reverseAux, Int.toNat, Option.toList, List.append, List.cons_append, List.nil_append, zg243]
  intro w52 τ52 o52 q52
  obtain ⟨r52, rfl, hr52, rfl⟩ := q52 (N, E, A, B, V, z) ⟨_, rfl, hZ, by omega⟩
  try dsimp only [Option.toList, List.cons_append, List.nil_append, s1C, s2C, dlC, kyC, Nat.beq, lkC, rcd, rno, rsw]
  have c53 : (Int32.ofInt 0).toInt = 0 := by decide
  exact hW _ 14 [(0, .inr (.inr (some (E 0)))), (1, .inl p1), (2, .inl p2), (3, .inr (.inr none)), (4, .inr (.inr none)), (5, .inl (Int32.ofInt 0))] _ _ _ (List.forall_mem_cons.2 ⟨List.Mem.tail _ (List.Mem.tail _ (List.Mem.tail _ (List.Mem.head _))), List.forall_mem_cons.2 ⟨List.Mem.tail _ (List.Mem.tail _ (List.Mem.tail _ (List.Mem.tail _ (List.Mem.head _)))), List.forall_mem_cons.2 ⟨List.Mem.tail _ (List.Mem.tail _ (List.Mem.tail _ (List.Mem.tail _ (List.Mem.tail _ (List.Mem.head _))))), List.forall_mem_cons.2 ⟨List.Mem.tail _ (List.Mem.tail _ (List.Mem.head _)), List.forall_mem_cons.2 ⟨List.Mem.tail _ (List.Mem.head _), List.forall_mem_cons.2 ⟨List.Mem.head _, fun _ h => absurd h List.not_mem_nil⟩⟩⟩⟩⟩⟩) (L14 _ _ _ _ _ _ (-1) (-1) _ _ _ ⟨⟨hZ, FzC.rf⟩, ⟨rfl, by omega⟩, ⟨rfl, by omega⟩, ⟨by omega, by omega⟩, Nat.le_refl _⟩ (by omega) (by omega) (by rw [show (501 - (Int32.ofInt 0).toInt).toNat = 501 by omega, rw_s hn]))
theorem recS : ∀ L : Nat, (∀ (As : List AvC) (σ : CsC) (w : Option AvC) (τ : CsC), EvF L 149 As σ w τ → Uz_readStatement As σ w τ) ∧ (∀ (As : List AvC) (σ : CsC) (w : Option AvC) (τ : CsC), EvF L 148 As σ w τ → Uz_readInner As σ w τ) ∧ (∀ (As : List AvC) (σ : CsC) (w : Option AvC) (τ : CsC), EvF L 144 As σ w τ → Uz_readBlock As σ w τ) ∧ (∀ (As : List AvC) (σ : CsC) (w : Option AvC) (τ : CsC), EvF L 143 As σ w τ → Uz_readBody As σ w τ) ∧ (∀ (As : List AvC) (σ : CsC) (w : Option AvC) (τ : CsC), EvF L 154 As σ w τ → Uz_readIf As σ w τ) ∧ (∀ (As : List AvC) (σ : CsC) (w : Option AvC) (τ : CsC), EvF L 155 As σ w τ → Uz_readWhile As σ w τ) ∧ (∀ (As : List AvC) (σ : CsC) (w : Option AvC) (τ : CsC), EvF L 156 As σ w τ → Uz_readDo As σ w τ) ∧ (∀ (As : List AvC) (σ : CsC) (w : Option AvC) (τ : CsC), EvF L 157 As σ w τ → Uz_readFor As σ w τ) ∧ (∀ (As : List AvC) (σ : CsC) (w : Option AvC) (τ : CsC), EvF L 159 As σ w τ → Uz_readSwitch As σ w τ) ∧ (∀ (As : List AvC) (σ : CsC) (w : Option AvC) (τ : CsC), EvF L 151 As σ w τ → Uz_readLabel As σ w τ) ∧ (∀ (As : List AvC) (σ : CsC) (w : Option AvC) (τ : CsC), EvF L 160 As σ w τ → Uz_readTry As σ w τ) ∧ (∀ (As : List AvC) (σ : CsC) (w : Option AvC) (τ : CsC), EvF L 150 As σ w τ → Uz_readSimple As σ w τ) ∧ (∀ (As : List AvC) (σ : CsC) (w : Option AvC) (τ : CsC), EvF L 146 As σ w τ → Uz_readRowPart As σ w τ) ∧ (∀ (As : List AvC) (σ : CsC) (w : Option AvC) (τ : CsC), EvF L 145 As σ w τ → Uz_readRow As σ w τ) := by
  intro L
  induction L with
  | zero => exact ⟨fun _ _ _ _ h => h.elim, fun _ _ _ _ h => h.elim, fun _ _ _ _ h => h.elim, fun _ _ _ _ h => h.elim, fun _ _ _ _ h => h.elim, fun _ _ _ _ h => h.elim, fun _ _ _ _ h => h.elim, fun _ _ _ _ h => h.elim, fun _ _ _ _ h => h.elim, fun _ _ _ _ h => h.elim, fun _ _ _ _ h => h.elim, fun _ _ _ _ h => h.elim, fun _ _ _ _ h => h.elim, fun _ _ _ _ h => h.elim⟩
  | succ L ih =>
    obtain ⟨i_readStatement, i_readInner, i_readBlock, i_readBody, i_readIf, i_readWhile, i_readDo, i_readFor, i_readSwitch, i_readLabel, i_readTry, i_readSimple, i_readRowPart, i_readRow⟩ := ih
    exact ⟨fun As σ w τ h y hy => EvF.us (cs := [131, 125, 150, 154, 155, 156, 157, 159, 160, 152, 126, 151]) (pz_readStatement y) rfl (List.forall_mem_cons.2 ⟨wz_isTooDeep L, List.forall_mem_cons.2 ⟨wz_code L, List.forall_mem_cons.2 ⟨i_readSimple, List.forall_mem_cons.2 ⟨i_readIf, List.forall_mem_cons.2 ⟨i_readWhile, List.forall_mem_cons.2 ⟨i_readDo, List.forall_mem_cons.2 ⟨i_readFor, List.forall_mem_cons.2 ⟨i_readSwitch, List.forall_mem_cons.2 ⟨i_readTry, List.forall_mem_cons.2 ⟨wz_readExpStatement L, List.forall_mem_cons.2 ⟨wz_codeBehind L, List.forall_mem_cons.2 ⟨i_readLabel, fun _ h => absurd h List.not_mem_nil⟩⟩⟩⟩⟩⟩⟩⟩⟩⟩⟩⟩) h hy, fun As σ w τ h y hy => EvF.us (cs := [149]) (pz_readInner y) rfl (List.forall_mem_cons.2 ⟨i_readStatement, fun _ h => absurd h List.not_mem_nil⟩) h hy, fun As σ w τ h y hy => EvF.us (cs := [129, 145]) (pz_readBlock y) rfl (List.forall_mem_cons.2 ⟨wz_expect L, List.forall_mem_cons.2 ⟨i_readRow, fun _ h => absurd h List.not_mem_nil⟩⟩) h hy, fun As σ w τ h y hy => EvF.us (cs := [142, 144]) (pz_readBody y) rfl (List.forall_mem_cons.2 ⟨wz_begin L, List.forall_mem_cons.2 ⟨i_readBlock, fun _ h => absurd h List.not_mem_nil⟩⟩) h hy, fun As σ w τ h y hy => EvF.us (cs := [142, 128, 153, 148, 130]) (pz_readIf y) rfl (List.forall_mem_cons.2 ⟨wz_begin L, List.forall_mem_cons.2 ⟨wz_accept L, List.forall_mem_cons.2 ⟨wz_readCondition L, List.forall_mem_cons.2 ⟨i_readInner, List.forall_mem_cons.2 ⟨wz_takes L, fun _ h => absurd h List.not_mem_nil⟩⟩⟩⟩⟩) h hy, fun As σ w τ h y hy => EvF.us (cs := [142, 128, 153, 148]) (pz_readWhile y) rfl (List.forall_mem_cons.2 ⟨wz_begin L, List.forall_mem_cons.2 ⟨wz_accept L, List.forall_mem_cons.2 ⟨wz_readCondition L, List.forall_mem_cons.2 ⟨i_readInner, fun _ h => absurd h List.not_mem_nil⟩⟩⟩⟩) h hy, fun As σ w τ h y hy => EvF.us (cs := [142, 128, 148, 129, 153]) (pz_readDo y) rfl (List.forall_mem_cons.2 ⟨wz_begin L, List.forall_mem_cons.2 ⟨wz_accept L, List.forall_mem_cons.2 ⟨i_readInner, List.forall_mem_cons.2 ⟨wz_expect L, List.forall_mem_cons.2 ⟨wz_readCondition L, fun _ h => absurd h List.not_mem_nil⟩⟩⟩⟩⟩) h hy, fun As σ w τ h y hy => EvF.us (cs := [142, 128, 129, 125, 141, 148, 158, 164, 132]) (pz_readFor y) rfl (List.forall_mem_cons.2 ⟨wz_begin L, List.forall_mem_cons.2 ⟨wz_accept L, List.forall_mem_cons.2 ⟨wz_expect L, List.forall_mem_cons.2 ⟨wz_code L, List.forall_mem_cons.2 ⟨wz_readVariable L, List.forall_mem_cons.2 ⟨i_readInner, List.forall_mem_cons.2 ⟨wz_readForExps L, List.forall_mem_cons.2 ⟨wz_readExp L, List.forall_mem_cons.2 ⟨wz_isType L, fun _ h => absurd h List.not_mem_nil⟩⟩⟩⟩⟩⟩⟩⟩⟩) h hy, fun As σ w τ h y hy => EvF.us (cs := [142, 128, 153, 129, 145]) (pz_readSwitch y) rfl (List.forall_mem_cons.2 ⟨wz_begin L, List.forall_mem_cons.2 ⟨wz_accept L, List.forall_mem_cons.2 ⟨wz_readCondition L, List.forall_mem_cons.2 ⟨wz_expect L, List.forall_mem_cons.2 ⟨i_readRow, fun _ h => absurd h List.not_mem_nil⟩⟩⟩⟩⟩) h hy, fun As σ w τ h y hy => EvF.us (cs := [142, 128, 129, 148]) (pz_readLabel y) rfl (List.forall_mem_cons.2 ⟨wz_begin L, List.forall_mem_cons.2 ⟨wz_accept L, List.forall_mem_cons.2 ⟨wz_expect L, List.forall_mem_cons.2 ⟨i_readInner, fun _ h => absurd h List.not_mem_nil⟩⟩⟩⟩) h hy, fun As σ w τ h y hy => EvF.us (cs := [142, 128, 143, 125, 130, 129, 137, 138, 127]) (pz_readTry y) rfl (List.forall_mem_cons.2 ⟨wz_begin L, List.forall_mem_cons.2 ⟨wz_accept L, List.forall_mem_cons.2 ⟨i_readBody, List.forall_mem_cons.2 ⟨wz_code L, List.forall_mem_cons.2 ⟨wz_takes L, List.forall_mem_cons.2 ⟨wz_expect L, List.forall_mem_cons.2 ⟨wz_declare L, List.forall_mem_cons.2 ⟨wz_know L, List.forall_mem_cons.2 ⟨fun _ _ _ _ _ => trivial, fun _ h => absurd h List.not_mem_nil⟩⟩⟩⟩⟩⟩⟩⟩⟩) h hy, fun As σ w τ h y hy => EvF.us (cs := [125, 142, 128, 164, 129, 234, 144]) (pz_readSimple y) rfl (List.forall_mem_cons.2 ⟨wz_code L, List.forall_mem_cons.2 ⟨wz_begin L, List.forall_mem_cons.2 ⟨wz_accept L, List.forall_mem_cons.2 ⟨wz_readExp L, List.forall_mem_cons.2 ⟨wz_expect L, List.forall_mem_cons.2 ⟨fun _ _ _ _ _ => trivial, List.forall_mem_cons.2 ⟨i_readBlock, fun _ h => absurd h List.not_mem_nil⟩⟩⟩⟩⟩⟩⟩) h hy, fun As σ w τ h y hy => EvF.us (cs := [125, 141, 129, 132, 149, 147, 127]) (pz_readRowPart y) rfl (List.forall_mem_cons.2 ⟨wz_code L, List.forall_mem_cons.2 ⟨wz_readVariable L, List.forall_mem_cons.2 ⟨wz_expect L, List.forall_mem_cons.2 ⟨wz_isType L, List.forall_mem_cons.2 ⟨i_readStatement, List.forall_mem_cons.2 ⟨wz_readCase L, List.forall_mem_cons.2 ⟨fun _ _ _ _ _ => trivial, fun _ h => absurd h List.not_mem_nil⟩⟩⟩⟩⟩⟩⟩) h hy, fun As σ w τ h y hy => EvF.us (cs := [131, 125, 146]) (pz_readRow y) rfl (List.forall_mem_cons.2 ⟨wz_isTooDeep L, List.forall_mem_cons.2 ⟨wz_code L, List.forall_mem_cons.2 ⟨i_readRowPart, fun _ h => absurd h List.not_mem_nil⟩⟩⟩) h hy⟩
theorem wz_readStatement (L : Nat) : ∀ (As : List AvC) (σ : CsC) (w : Option AvC) (τ : CsC), EvF L 149 As σ w τ → Uz_readStatement As σ w τ := (recS L).1
theorem wz_readInner (L : Nat) : ∀ (As : List AvC) (σ : CsC) (w : Option AvC) (τ : CsC), EvF L 148 As σ w τ → Uz_readInner As σ w τ := (recS L).2.1
theorem wz_readBlock (L : Nat) : ∀ (As : List AvC) (σ : CsC) (w : Option AvC) (τ : CsC), EvF L 144 As σ w τ → Uz_readBlock As σ w τ := (recS L).2.2.1
theorem wz_readBody (L : Nat) : ∀ (As : List AvC) (σ : CsC) (w : Option AvC) (τ : CsC), EvF L 143 As σ w τ → Uz_readBody As σ w τ := (recS L).2.2.2.1
theorem wz_readIf (L : Nat) : ∀ (As : List AvC) (σ : CsC) (w : Option AvC) (τ : CsC), EvF L 154 As σ w τ → Uz_readIf As σ w τ := (recS L).2.2.2.2.1
theorem wz_readWhile (L : Nat) : ∀ (As : List AvC) (σ : CsC) (w : Option AvC) (τ : CsC), EvF L 155 As σ w τ → Uz_readWhile As σ w τ := (recS L).2.2.2.2.2.1
theorem wz_readDo (L : Nat) : ∀ (As : List AvC) (σ : CsC) (w : Option AvC) (τ : CsC), EvF L 156 As σ w τ → Uz_readDo As σ w τ := (recS L).2.2.2.2.2.2.1
theorem wz_readFor (L : Nat) : ∀ (As : List AvC) (σ : CsC) (w : Option AvC) (τ : CsC), EvF L 157 As σ w τ → Uz_readFor As σ w τ := (recS L).2.2.2.2.2.2.2.1
theorem wz_readSwitch (L : Nat) : ∀ (As : List AvC) (σ : CsC) (w : Option AvC) (τ : CsC), EvF L 159 As σ w τ → Uz_readSwitch As σ w τ := (recS L).2.2.2.2.2.2.2.2.1
theorem wz_readLabel (L : Nat) : ∀ (As : List AvC) (σ : CsC) (w : Option AvC) (τ : CsC), EvF L 151 As σ w τ → Uz_readLabel As σ w τ := (recS L).2.2.2.2.2.2.2.2.2.1
theorem wz_readTry (L : Nat) : ∀ (As : List AvC) (σ : CsC) (w : Option AvC) (τ : CsC), EvF L 160 As σ w τ → Uz_readTry As σ w τ := (recS L).2.2.2.2.2.2.2.2.2.2.1
theorem wz_readSimple (L : Nat) : ∀ (As : List AvC) (σ : CsC) (w : Option AvC) (τ : CsC), EvF L 150 As σ w τ → Uz_readSimple As σ w τ := (recS L).2.2.2.2.2.2.2.2.2.2.2.1
theorem wz_readRowPart (L : Nat) : ∀ (As : List AvC) (σ : CsC) (w : Option AvC) (τ : CsC), EvF L 146 As σ w τ → Uz_readRowPart As σ w τ := (recS L).2.2.2.2.2.2.2.2.2.2.2.2.1
theorem wz_readRow (L : Nat) : ∀ (As : List AvC) (σ : CsC) (w : Option AvC) (τ : CsC), EvF L 145 As σ w τ → Uz_readRow As σ w τ := (recS L).2.2.2.2.2.2.2.2.2.2.2.2.2
