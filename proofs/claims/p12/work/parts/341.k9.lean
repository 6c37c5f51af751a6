/-! the class's judge: one exp of the list -/
theorem op_1 {x : XrZ} (h : x.1.1 = 3 ∨ x.1.1 = 4 ∨ x.1.1 = 5 ∨ x.1.1 = 15) : opsZ x = [x.2.2.1.2.1] := if_pos h
theorem op_7 {x : XrZ} (h : x.1.1 = 7) : opsZ x = [x.2.2.1.2.2.1, x.2.2.1.2.1] := (if_neg (by omega)).trans (if_pos h)
theorem op_8 {x : XrZ} (h : x.1.1 = 8) : opsZ x = [x.2.2.1.2.2.2.1, x.2.2.1.2.2.1, x.2.2.1.2.1] := (if_neg (by omega)).trans ((if_neg (by omega)).trans (if_pos h))
theorem op_9 {x : XrZ} (h : x.1.1 = 9) : opsZ x = [x.2.2.1.2.2.1] := (if_neg (by omega)).trans ((if_neg (by omega)).trans ((if_neg (by omega)).trans (if_pos h)))
theorem op_10 {x : XrZ} (h : x.1.1 = 10) : opsZ x = x.2.2.2.reverse := (if_neg (by omega)).trans ((if_neg (by omega)).trans ((if_neg (by omega)).trans ((if_neg (by omega)).trans (if_pos h))))
theorem ex_o {C : CxT} {T : TbT} {i : Nat} {x : XrZ} (h : x.1.1 = 1 ∨ (11 ≤ x.1.1 ∧ x.1.1 ≤ 14) ∨ 15 < x.1.1 ∨ x.1.1 < 0) : exT C T i x = some (T.1 i) := by
  unfold exT
  rw [if_neg (by omega), if_neg (by omega), if_neg (by omega), if_neg (by omega), if_neg (by omega), if_neg (by omega), if_neg (by omega), if_neg (by omega), if_neg (by omega), if_neg (by omega), if_neg (by omega)]
theorem o1_ex {C : CxT} {T : TbT} {i : Nat} {x : XrZ} (h : x.1.1 = 3 ∨ x.1.1 = 4 ∨ x.1.1 = 5) : exT C T i x = o1T (opT T x.2.2.1.2.1) (T.1 i) x := by
  unfold o1T
  rcases h with h | h | h
  · rw [if_pos h, ex_3 h]
  · rw [if_neg (by omega), if_pos h, ex_4 h]
  · rw [if_neg (by omega), if_neg (by omega), ex_5 h]
def JoC (N : Int → Int) (E A V : Nat → Nat) (z : ZS) (ms : MfT) (σ0 τ : CsC) (T : TbT) (i : Nat) : Prop := (exT (CzT N z ms) T i (xth z i) = none ∧ erC E τ) ∨ ∃ e, exT (CzT N z ms) T i (xth z i) = some e ∧ JxC E A V z σ0 τ (fun k => if k = i then e else T.1 k, vrT (CzT N z ms) T (xth z i)) (i + 1)
theorem JoC.q {N : Int → Int} {E A B V : Nat → Nat} {σ0 σ τ : CsC} {z : ZS} {ms : MfT} {nm : Nat} {T : TbT} {i : Nat} {M : List Nat} {W : TvT → Prop} {q : Option TvT} (hS : StC N E A B V σ0 z ms nm) (h : JxC E A V z σ0 σ T i) (hi : i < xnM z) (e : exT (CzT N z ms) T i (xth z i) = q) (hM : M.all (fun k => [68, 69, 70, 71].elem k) = true) (h69 : M.elem 69 = true → (xth z i).1.1 = 7 ∨ (xth z i).1.1 = 9) (h10 : ¬ (xth z i).1.1 = 10) (h15 : ¬ (xth z i).1.1 = 15) (hW : ∀ r, W r → (xth z i).1.1 = 7 ∨ (xth z i).1.1 = 9 → (fIC τ (A i) 69).toInt = r.2.2.2) (r : JqC E M σ τ (A i) q W) : JoC N E A V z ms σ0 τ T i := by
  rcases r with ⟨r1, r2⟩ | ⟨r, r1, r2, r3, r4, r5⟩
  · exact Or.inl ⟨e.trans r1, r2⟩
  · exact Or.inr ⟨r, e.trans r1, h.st hS hi hM h69 h10 h15 r3 r4 (hW r r5)⟩
theorem JoC.s {N : Int → Int} {E A B V : Nat → Nat} {σ0 σ τ : CsC} {z : ZS} {ms : MfT} {nm : Nat} {T : TbT} {i : Nat} {q : Option TvT} (hS : StC N E A B V σ0 z ms nm) (h : JxC E A V z σ0 σ T i) (hk : (xth z i).1.1 = 15) (hi : i < xnM z) (e : exT (CzT N z ms) T i (xth z i) = q) (r : JsC E σ τ (V (xth z i).2.1.2.1.toNat) q (if ¬ (vtT (CzT N z ms) (xth z i).2.1.2.1).2 = 0 ∧ ¬ (opT T (xth z i).2.2.1.2.1).2.1 = 0 then 1 else 0, (opT T (xth z i).2.2.1.2.1).2.2.1)) (hq : ∀ r, q = some r → r = T.1 i) : JoC N E A V z ms σ0 τ T i := by
  have hl := hS.1.2.2 i hi hk
  rcases r with ⟨r1, r2⟩ | ⟨⟨r, r1⟩, r2, r3, r4, r5⟩
  · exact Or.inl ⟨e.trans r1, r2⟩
  · refine Or.inr ⟨T.1 i, e.trans (by rw [r1, hq r r1]), h.so hS hk (l := (xth z i).2.1.2.1.toNat) (by omega) (by omega) r3 r4 r5⟩
theorem JoC.c {N : Int → Int} {E A B V : Nat → Nat} {σ0 σ τ : CsC} {z : ZS} {ms : MfT} {nm : Nat} {T : TbT} {i : Nat} {q : Option TvT} (hS : StC N E A B V σ0 z ms nm) (h : JxC E A V z σ0 σ T i) (hi : i < xnM z) (hk : (xth z i).1.1 = 10) (e : exT (CzT N z ms) T i (xth z i) = q) (r : JcC E σ τ (A i) (xth z i).1.2.2.1 q) : JoC N E A V z ms σ0 τ T i := by
  rcases r with ⟨r1, r2⟩ | ⟨r, r1, r2, r3, r4, r5, v, r6, r7⟩
  · exact Or.inl ⟨e.trans r1, r2⟩
  · exact Or.inr ⟨r, e.trans r1, h.ca hS hi hk r3 r4 r5 r6 r7⟩
theorem JoC.we {N : Int → Int} {E A V : Nat → Nat} {σ0 τ υ : CsC} {z : ZS} {ms : MfT} {T : TbT} {i : Nat} (w : WeC τ υ) (h : JoC N E A V z ms σ0 τ T i) : JoC N E A V z ms σ0 υ T i := by
  unfold JoC JxC JfC TwC at *
  rw [show erC E υ ↔ erC E τ by unfold erC; rw [we_i w]]
  rw [we_i w, we_l w, we_r w, we_ei w, we_el w, we_er w, we_c w]
  exact h
abbrev Pz_judgeExp : ((Int → Int) × (Nat → Nat) × (Nat → Nat) × (Nat → Nat) × (Nat → Nat) × ZS × CsC × TbT × Nat × MfT × Nat) → CpC := fun y As σ => match y with
  | (N, E, A, B, V, z, σ0, T, i, ms, nm) => ∃ (p1 : Nat), As = [.inr (.inr (some (E 3))), .inr (.inr (some p1))] ∧ (StC N E A B V σ0 z ms nm) ∧ (JxC E A V z σ0 σ T i) ∧ (i < xnM z) ∧ (p1 = A i) ∧ (TyP z T i) ∧ (∀ i, i < xnM z → (xth z i).1.1 = 10 → (xth z i).2.2.1.2.1 = (xth z i).2.2.2.headD (-1)) ∧ (∀ i, i < xnM z → (xth z i).1.1 = 10 → 0 ≤ (xth z i).1.2.2.1) ∧ (∀ i, i < xnM z → (xth z i).1.1 = 10 → (xth z i).2.2.2.length ≤ 500)
abbrev Qz_judgeExp : ((Int → Int) × (Nat → Nat) × (Nat → Nat) × (Nat → Nat) × (Nat → Nat) × ZS × CsC × TbT × Nat × MfT × Nat) → CqC := fun y As σ w τ => match y, As with
  | (N, E, A, B, V, z, σ0, T, i, ms, nm), [_, .inr (.inr (some p1))] => w = none ∧ JoC N E A V z ms σ0 τ T i
  | _, _ => True
abbrev Uz_judgeExp : CqC := fun As σ w τ => ∀ y, Pz_judgeExp y As σ → Qz_judgeExp y As σ w τ
set_option maxHeartbeats 4000000 in
theorem pz_judgeExp (y : (Int → Int) × (Nat → Nat) × (Nat → Nat) × (Nat → Nat) × (Nat → Nat) × ZS × CsC × TbT × Nat × MfT × Nat) : PbC KX3_judgeExp [(54, TrP, EqC 54), (55, TrP, EqC 55), (56, TrP, EqC 56), (60, TrP, EqC 60), (69, TrP, EqC 69), (71, TrP, EqC 71), (61, TrP, EqC 61), (76, TrP, EqC 76), (79, TrP, EqC 79)] [(54, Uz_judgeNumber), (55, Uz_judgeName), (56, Uz_judgeOfOne), (60, Uz_judgeCount), (69, Uz_judgeChain), (71, Uz_judgeChoice), (61, Uz_judgeAssignment), (76, Uz_judgeCall), (79, Uz_judgeStore)] (fun As σ => Pz_judgeExp y As σ ∧ cnC σ ≤ 1000000 ∧ ∃ w τ, uqC quL 53 As σ w τ) (Qz_judgeExp y) := by
  obtain ⟨N, E, A, B, V, z, σ0, T, i, ms, nm⟩ := y
  rintro As σ ⟨⟨p1, rfl, hS, hJ, hi, hp, hT, hcal, hcf, hcl⟩, hcn, _, _, hQ⟩ K hB hW n_
  have hP := hJ.pj hS
  have he := hJ.er hS
  have hlt : p1 < cnC σ := by rw [hp]; exact hJ.lt hS hi
  have hx : XqC σ (xth z i) p1 := by rw [hp]; exact hJ.xq hS hi
  have ht : TwC σ p1 (T.1 i) := by rw [hp]; exact hJ.2.1 i hi
  have hrf := hJ.rf hS hi
  rw [← hp] at hrf
  have hV := hJ.vp hS
  have hVW := hJ.2.2.2.1
  have hop : ∀ q ∈ opsZ (xth z i), OpP A z σ T i q := fun q hq => hJ.op hS hT hi hq
  change K n_ 0 [(0, .inr (.inr (some (E 3)))), (1, .inr (.inr (some p1)))] [] σ
  refine hB _ _ _ _ _ (fun m51 hm51 => ?_)
  dsimp only [ucgo, ucwp, ucsC, uqC, uoC, ctC, rfd, KX3_judgeExp, KX3_judgeExp_0, KX3_judgeExp_84, KX3_judgeExp_92, KX3_judgeExp_100, KX3_judgeExp_108, KX3_judgeExp_116, KX3_judgeExp_124, KX3_judgeExp_132, KX3_judgeExp_140, KX3_judgeExp_148, KX3_judgeExp_156, lkC, s1C, s2C, dlC, kyC, Nat.beq, Nat.ble, rcd, rno, rsw, Nat.reduceAdd, Nat.reduceBEq, Nat.reduceDiv, List.drop, List.take, List.reverse, List.reverseAux, Int.toNat, Option.toList, List.append, List.cons_append, List.nil_append, zg60]
  intro a52 e52 ob52
  cases e52
  have f53 : (fIC σ p1 60).toInt = (xth z i).1.1 := hx.1.1
  refine ⟨fun h54 => ?_, fun h54 => ?_⟩
  · have g54 : ((fIC σ p1 60) : Int32).toInt = 0 := h54
    refine hB _ _ _ _ _ (fun m55 hm55 => ?_)
    dsimp only [ucgo, ucwp, ucsC, uqC, uoC, ctC, rfd, KX3_judgeExp, KX3_judgeExp_0, KX3_judgeExp_84, KX3_judgeExp_92, KX3_judgeExp_100, KX3_judgeExp_108, KX3_judgeExp_116, KX3_judgeExp_124, KX3_judgeExp_132, KX3_judgeExp_140, KX3_judgeExp_148, KX3_judgeExp_156, lkC, s1C, s2C, dlC, kyC, Nat.beq, Nat.ble, rcd, rno, rsw, Nat.reduceAdd, Nat.reduceBEq, Nat.reduceDiv, List.drop, List.take, List.reverse, List.reverseAux, Int.toNat, Option.toList, List.append, List.cons_append, List.nil_append, zg60]
    intro w56 τ56 o56 q56
    have hq56 := q56 (N, E, A, B, V, z, xth z i, T.1 i) ⟨_, rfl, hP, he, hlt, hx, ht, (by omega), hx.2.1 (by omega)⟩
    obtain ⟨rfl, hq56⟩ := hq56
    rw [hp] at hq56
    have hjo := JoC.q (M := [68, 70, 71]) hS hJ hi (ex_0 (by omega)) (by decide) (fun h => absurd h (by decide)) (by omega) (by omega) (fun r hr h => by omega) hq56
    try dsimp only [Option.toList, List.cons_append, List.nil_append, s1C, s2C, dlC, kyC, Nat.beq, lkC, rcd, rno, rsw]
    refine hB _ _ _ _ _ (fun m57 hm57 => ?_)
    dsimp only [ucgo, ucwp, ucsC, uqC, uoC, ctC, rfd, KX3_judgeExp, KX3_judgeExp_0, KX3_judgeExp_84, KX3_judgeExp_92, KX3_judgeExp_100, KX3_judgeExp_108, KX3_judgeExp_116, KX3_judgeExp_124, KX3_judgeExp_132, KX3_judgeExp_140, KX3_judgeExp_148, KX3_judgeExp_156, lkC, s1C, s2C, dlC, kyC, Nat.beq, Nat.ble, rcd, rno, rsw, Nat.reduceAdd, Nat.reduceBEq, Nat.reduceDiv, List.drop, List.take, List.reverse, List.reverseAux, Int.toNat, Option.toList, List.append, List.cons_append, List.nil_append, zg60]
    try dsimp only [Qz_judgeExp]
    exact fun τ9 h9 => ⟨rfl, JoC.we h9 hjo⟩
  have g54 : ¬ ((fIC σ p1 60) : Int32).toInt = 0 := h54
  refine ⟨fun h58 => ?_, fun h58 => ?_⟩
  · have g58 : ((fIC σ p1 60) : Int32).toInt = 1 := h58
    refine hB _ _ _ _ _ (fun m59 hm59 => ?_)
    dsimp only [ucgo, ucwp, ucsC, uqC, uoC, ctC, rfd, KX3_judgeExp, KX3_judgeExp_0, KX3_judgeExp_84, KX3_judgeExp_92, KX3_judgeExp_100, KX3_judgeExp_108, KX3_judgeExp_116, KX3_judgeExp_124, KX3_judgeExp_132, KX3_judgeExp_140, KX3_judgeExp_148, KX3_judgeExp_156, lkC, s1C, s2C, dlC, kyC, Nat.beq, Nat.ble, rcd, rno, rsw, Nat.reduceAdd, Nat.reduceBEq, Nat.reduceDiv, List.drop, List.take, List.reverse, List.reverseAux, Int.toNat, Option.toList, List.append, List.cons_append, List.nil_append, zg60]
    try dsimp only [Qz_judgeExp]
    exact fun τ9 h9 => ⟨rfl, Or.inr ⟨_, ex_o (by omega), hJ.no (by omega) h9⟩⟩
  have g58 : ¬ ((fIC σ p1 60) : Int32).toInt = 1 := h58
  refine ⟨fun h60 => ?_, fun h60 => ?_⟩
  · have g60 : ((fIC σ p1 60) : Int32).toInt = 2 := h60
    refine hB _ _ _ _ _ (fun m61 hm61 => ?_)
    dsimp only [ucgo, ucwp, ucsC, uqC, uoC, ctC, rfd, KX3_judgeExp, KX3_judgeExp_0, KX3_judgeExp_84, KX3_judgeExp_92, KX3_judgeExp_100, KX3_judgeExp_108, KX3_judgeExp_116, KX3_judgeExp_124, KX3_judgeExp_132, KX3_judgeExp_140, KX3_judgeExp_148, KX3_judgeExp_156, lkC, s1C, s2C, dlC, kyC, Nat.beq, Nat.ble, rcd, rno, rsw, Nat.reduceAdd, Nat.reduceBEq, Nat.reduceDiv, List.drop, List.take, List.reverse, List.reverseAux, Int.toNat, Option.toList, List.append, List.cons_append, List.nil_append, zg60]
    intro w62 τ62 o62 q62
    have hq62 := q62 (N, E, A, B, V, z, CzT N z ms, T.1, T.2, xth z i, T.1 i) ⟨_, rfl, hP, he, hlt, hx, ht, (by omega), hV, hVW⟩
    obtain ⟨rfl, hq62⟩ := hq62
    rw [hp] at hq62
    have hjo := JoC.q (M := [68, 70, 71]) hS hJ hi (ex_2 (by omega)) (by decide) (fun h => absurd h (by decide)) (by omega) (by omega) (fun r hr h => by omega) hq62
    try dsimp only [Option.toList, List.cons_append, List.nil_append, s1C, s2C, dlC, kyC, Nat.beq, lkC, rcd, rno, rsw]
    refine hB _ _ _ _ _ (fun m63 hm63 => ?_)
    dsimp only [ucgo, ucwp, ucsC, uqC, uoC, ctC, rfd, KX3_judgeExp, KX3_judgeExp_0, KX3_judgeExp_84, KX3_judgeExp_92, KX3_judgeExp_100, KX3_judgeExp_108, KX3_judgeExp_116, KX3_judgeExp_124, KX3_judgeExp_132, KX3_judgeExp_140, KX3_judgeExp_148, KX3_judgeExp_156, lkC, s1C, s2C, dlC, kyC, Nat.beq, Nat.ble, rcd, rno, rsw, Nat.reduceAdd, Nat.reduceBEq, Nat.reduceDiv, List.drop, List.take, List.reverse, List.reverseAux, Int.toNat, Option.toList, List.append, List.cons_append, List.nil_append, zg60]
    try dsimp only [Qz_judgeExp]
    exact fun τ9 h9 => ⟨rfl, JoC.we h9 hjo⟩
  have g60 : ¬ ((fIC σ p1 60) : Int32).toInt = 2 := h60
  refine ⟨fun h64 => ?_, fun h64 => ?_⟩
  · have g64 : ((fIC σ p1 60) : Int32).toInt = 3 := h64
    refine hB _ _ _ _ _ (fun m65 hm65 => ?_)
    dsimp only [ucgo, ucwp, ucsC, uqC, uoC, ctC, rfd, KX3_judgeExp, KX3_judgeExp_0, KX3_judgeExp_84, KX3_judgeExp_92, KX3_judgeExp_100, KX3_judgeExp_108, KX3_judgeExp_116, KX3_judgeExp_124, KX3_judgeExp_132, KX3_judgeExp_140, KX3_judgeExp_148, KX3_judgeExp_156, lkC, s1C, s2C, dlC, kyC, Nat.beq, Nat.ble, rcd, rno, rsw, Nat.reduceAdd, Nat.reduceBEq, Nat.reduceDiv, List.drop, List.take, List.reverse, List.reverseAux, Int.toNat, Option.toList, List.append, List.cons_append, List.nil_append, zg60]
    intro w66 τ66 o66 q66
    have hoa := hop _ (by rw [op_1 (by omega)]; exact List.mem_singleton.mpr rfl)
    have hra_ := opA_s (A := A) hoa.1.1
    have hq66 := q66 (N, E, A, B, V, z, xth z i, T.1 i, A ((xth z i).2.2.1.2.1).toNat, opT T ((xth z i).2.2.1.2.1)) ⟨_, rfl, hP, he, hlt, hx, ht, (by omega), (hrf.1.trans hra_), (by rw [hp]; exact hoa.2.1), hoa.2.2.1, hoa.2.2.2⟩
    obtain ⟨rfl, hq66⟩ := hq66
    rw [hp] at hq66
    have hjo := JoC.q (M := [68, 70, 71]) hS hJ hi (o1_ex (by omega)) (by decide) (fun h => absurd h (by decide)) (by omega) (by omega) (fun r hr h => by omega) hq66
    try dsimp only [Option.toList, List.cons_append, List.nil_append, s1C, s2C, dlC, kyC, Nat.beq, lkC, rcd, rno, rsw]
    refine hB _ _ _ _ _ (fun m67 hm67 => ?_)
    dsimp only [ucgo, ucwp, ucsC, uqC, uoC, ctC, rfd, KX3_judgeExp, KX3_judgeExp_0, KX3_judgeExp_84, KX3_judgeExp_92, KX3_judgeExp_100, KX3_judgeExp_108, KX3_judgeExp_116, KX3_judgeExp_124, KX3_judgeExp_132, KX3_judgeExp_140, KX3_judgeExp_148, KX3_judgeExp_156, lkC, s1C, s2C, dlC, kyC, Nat.beq, Nat.ble, rcd, rno, rsw, Nat.reduceAdd, Nat.reduceBEq, Nat.reduceDiv, List.drop, List.take, List.reverse, List.reverseAux, Int.toNat, Option.toList, List.append, List.cons_append, List.nil_append, zg60]
    try dsimp only [Qz_judgeExp]
    exact fun τ9 h9 => ⟨rfl, JoC.we h9 hjo⟩
  have g64 : ¬ ((fIC σ p1 60) : Int32).toInt = 3 := h64
  refine ⟨fun h68 => ?_, fun h68 => ?_⟩
  · have g68 : ((fIC σ p1 60) : Int32).toInt = 4 := h68
    refine hB _ _ _ _ _ (fun m69 hm69 => ?_)
    dsimp only [ucgo, ucwp, ucsC, uqC, uoC, ctC, rfd, KX3_judgeExp, KX3_judgeExp_0, KX3_judgeExp_84, KX3_judgeExp_92, KX3_judgeExp_100, KX3_judgeExp_108, KX3_judgeExp_116, KX3_judgeExp_124, KX3_judgeExp_132, KX3_judgeExp_140, KX3_judgeExp_148, KX3_judgeExp_156, lkC, s1C, s2C, dlC, kyC, Nat.beq, Nat.ble, rcd, rno, rsw, Nat.reduceAdd, Nat.reduceBEq, Nat.reduceDiv, List.drop, List.take, List.reverse, List.reverseAux, Int.toNat, Option.toList, List.append, List.cons_append, List.nil_append, zg60]
    intro w70 τ70 o70 q70
    have hoa := hop _ (by rw [op_1 (by omega)]; exact List.mem_singleton.mpr rfl)
    have hra_ := opA_s (A := A) hoa.1.1
    have hq70 := q70 (N, E, A, B, V, z, xth z i, T.1 i, A ((xth z i).2.2.1.2.1).toNat, opT T ((xth z i).2.2.1.2.1)) ⟨_, rfl, hP, he, hlt, hx, ht, (by omega), (hrf.1.trans hra_), (by rw [hp]; exact hoa.2.1), hoa.2.2.1, hoa.2.2.2⟩
    obtain ⟨rfl, hq70⟩ := hq70
    rw [hp] at hq70
    have hjo := JoC.q (M := [68, 70, 71]) hS hJ hi (o1_ex (by omega)) (by decide) (fun h => absurd h (by decide)) (by omega) (by omega) (fun r hr h => by omega) hq70
    try dsimp only [Option.toList, List.cons_append, List.nil_append, s1C, s2C, dlC, kyC, Nat.beq, lkC, rcd, rno, rsw]
    refine hB _ _ _ _ _ (fun m71 hm71 => ?_)
    dsimp only [ucgo, ucwp, ucsC, uqC, uoC, ctC, rfd, KX3_judgeExp, KX3_judgeExp_0, KX3_judgeExp_84, KX3_judgeExp_92, KX3_judgeExp_100, KX3_judgeExp_108, KX3_judgeExp_116, KX3_judgeExp_124, KX3_judgeExp_132, KX3_judgeExp_140, KX3_judgeExp_148, KX3_judgeExp_156, lkC, s1C, s2C, dlC, kyC, Nat.beq, Nat.ble, rcd, rno, rsw, Nat.reduceAdd, Nat.reduceBEq, Nat.reduceDiv, List.drop, List.take, List.reverse, List.reverseAux, Int.toNat, Option.toList, List.append, List.cons_append, List.nil_append, zg60]
    try dsimp only [Qz_judgeExp]
    exact fun τ9 h9 => ⟨rfl, JoC.we h9 hjo⟩
  have g68 : ¬ ((fIC σ p1 60) : Int32).toInt = 4 := h68
  refine ⟨fun h72 => ?_, fun h72 => ?_⟩
  · have g72 : ((fIC σ p1 60) : Int32).toInt = 5 := h72
    refine hB _ _ _ _ _ (fun m73 hm73 => ?_)
    dsimp only [ucgo, ucwp, ucsC, uqC, uoC, ctC, rfd, KX3_judgeExp, KX3_judgeExp_0, KX3_judgeExp_84, KX3_judgeExp_92, KX3_judgeExp_100, KX3_judgeExp_108, KX3_judgeExp_116, KX3_judgeExp_124, KX3_judgeExp_132, KX3_judgeExp_140, KX3_judgeExp_148, KX3_judgeExp_156, lkC, s1C, s2C, dlC, kyC, Nat.beq, Nat.ble, rcd, rno, rsw, Nat.reduceAdd, Nat.reduceBEq, Nat.reduceDiv, List.drop, List.take, List.reverse, List.reverseAux, Int.toNat, Option.toList, List.append, List.cons_append, List.nil_append, zg60]
    intro w74 τ74 o74 q74
    have hoa := hop _ (by rw [op_1 (by omega)]; exact List.mem_singleton.mpr rfl)
    have hra_ := opA_s (A := A) hoa.1.1
    have hq74 := q74 (N, E, A, B, V, z, xth z i, T.1 i, A ((xth z i).2.2.1.2.1).toNat, opT T ((xth z i).2.2.1.2.1)) ⟨_, rfl, hP, he, hlt, hx, ht, (by omega), (hrf.1.trans hra_), (by rw [hp]; exact hoa.2.1), hoa.2.2.1, hoa.2.2.2⟩
    obtain ⟨rfl, hq74⟩ := hq74
    rw [hp] at hq74
    have hjo := JoC.q (M := [68, 70, 71]) hS hJ hi (o1_ex (by omega)) (by decide) (fun h => absurd h (by decide)) (by omega) (by omega) (fun r hr h => by omega) hq74
    try dsimp only [Option.toList, List.cons_append, List.nil_append, s1C, s2C, dlC, kyC, Nat.beq, lkC, rcd, rno, rsw]
    refine hB _ _ _ _ _ (fun m75 hm75 => ?_)
    dsimp only [ucgo, ucwp, ucsC, uqC, uoC, ctC, rfd, KX3_judgeExp, KX3_judgeExp_0, KX3_judgeExp_84, KX3_judgeExp_92, KX3_judgeExp_100, KX3_judgeExp_108, KX3_judgeExp_116, KX3_judgeExp_124, KX3_judgeExp_132, KX3_judgeExp_140, KX3_judgeExp_148, KX3_judgeExp_156, lkC, s1C, s2C, dlC, kyC, Nat.beq, Nat.ble, rcd, rno, rsw, Nat.reduceAdd, Nat.reduceBEq, Nat.reduceDiv, List.drop, List.take, List.reverse, List.reverseAux, Int.toNat, Option.toList, List.append, List.cons_append, List.nil_append, zg60]
    try dsimp only [Qz_judgeExp]
    exact fun τ9 h9 => ⟨rfl, JoC.we h9 hjo⟩
  have g72 : ¬ ((fIC σ p1 60) : Int32).toInt = 5 := h72
  refine ⟨fun h76 => ?_, fun h76 => ?_⟩
  · have g76 : ((fIC σ p1 60) : Int32).toInt = 6 := h76
    refine hB _ _ _ _ _ (fun m77 hm77 => ?_)
    dsimp only [ucgo, ucwp, ucsC, uqC, uoC, ctC, rfd, KX3_judgeExp, KX3_judgeExp_0, KX3_judgeExp_84, KX3_judgeExp_92, KX3_judgeExp_100, KX3_judgeExp_108, KX3_judgeExp_116, KX3_judgeExp_124, KX3_judgeExp_132, KX3_judgeExp_140, KX3_judgeExp_148, KX3_judgeExp_156, lkC, s1C, s2C, dlC, kyC, Nat.beq, Nat.ble, rcd, rno, rsw, Nat.reduceAdd, Nat.reduceBEq, Nat.reduceDiv, List.drop, List.take, List.reverse, List.reverseAux, Int.toNat, Option.toList, List.append, List.cons_append, List.nil_append, zg60]
    intro w78 τ78 o78 q78
    have hq78 := q78 (N, E, A, B, V, z, CzT N z ms, xth z i, T.1 i) ⟨_, rfl, hP, he, hlt, hx, ht, (by omega), hV⟩
    obtain ⟨rfl, hq78⟩ := hq78
    rw [hp] at hq78
    have hjo := JoC.q (M := [68, 70, 71]) hS hJ hi (ex_6 (by omega)) (by decide) (fun h => absurd h (by decide)) (by omega) (by omega) (fun r hr h => by omega) hq78
    try dsimp only [Option.toList, List.cons_append, List.nil_append, s1C, s2C, dlC, kyC, Nat.beq, lkC, rcd, rno, rsw]
    refine hB _ _ _ _ _ (fun m79 hm79 => ?_)
    dsimp only [ucgo, ucwp, ucsC, uqC, uoC, ctC, rfd, KX3_judgeExp, KX3_judgeExp_0, KX3_judgeExp_84, KX3_judgeExp_92, KX3_judgeExp_100, KX3_judgeExp_108, KX3_judgeExp_116, KX3_judgeExp_124, KX3_judgeExp_132, KX3_judgeExp_140, KX3_judgeExp_148, KX3_judgeExp_156, lkC, s1C, s2C, dlC, kyC, Nat.beq, Nat.ble, rcd, rno, rsw, Nat.reduceAdd, Nat.reduceBEq, Nat.reduceDiv, List.drop, List.take, List.reverse, List.reverseAux, Int.toNat, Option.toList, List.append, List.cons_append, List.nil_append, zg60]
    try dsimp only [Qz_judgeExp]
    exact fun τ9 h9 => ⟨rfl, JoC.we h9 hjo⟩
  have g76 : ¬ ((fIC σ p1 60) : Int32).toInt = 6 := h76
  refine ⟨fun h80 => ?_, fun h80 => ?_⟩
  · have g80 : ((fIC σ p1 60) : Int32).toInt = 7 := h80
    refine hB _ _ _ _ _ (fun m81 hm81 => ?_)
    dsimp only [ucgo, ucwp, ucsC, uqC, uoC, ctC, rfd, KX3_judgeExp, KX3_judgeExp_0, KX3_judgeExp_84, KX3_judgeExp_92, KX3_judgeExp_100, KX3_judgeExp_108, KX3_judgeExp_116, KX3_judgeExp_124, KX3_judgeExp_132, KX3_judgeExp_140, KX3_judgeExp_148, KX3_judgeExp_156, lkC, s1C, s2C, dlC, kyC, Nat.beq, Nat.ble, rcd, rno, rsw, Nat.reduceAdd, Nat.reduceBEq, Nat.reduceDiv, List.drop, List.take, List.reverse, List.reverseAux, Int.toNat, Option.toList, List.append, List.cons_append, List.nil_append, zg60]
    intro w82 τ82 o82 q82
    have hoa := hop _ (by rw [op_7 (by omega)]; exact List.mem_cons_of_mem _ List.mem_cons_self)
    have hra_ := opA_s (A := A) hoa.1.1
    have hob := hop _ (by rw [op_7 (by omega)]; exact List.mem_cons_self)
    have hrb_ := opA_s (A := A) hob.1.1
    have hq82 := q82 (N, E, A, B, V, z, xth z i, T.1 i, A ((xth z i).2.2.1.2.1).toNat, opT T ((xth z i).2.2.1.2.1), A ((xth z i).2.2.1.2.2.1).toNat, opT T ((xth z i).2.2.1.2.2.1)) ⟨_, rfl, hP, he, hlt, hx, ht, (by omega), (hrf.1.trans hra_), (by rw [hp]; exact hoa.2.1), hoa.2.2.1, hoa.2.2.2, (hrf.2.1.trans hrb_), (by rw [hp]; exact hob.2.1), hob.2.2.1, hob.2.2.2⟩
    obtain ⟨rfl, hq82⟩ := hq82
    rw [hp] at hq82
    have hjo := JoC.q (M := [68, 69, 70, 71]) hS hJ hi (ex_7 (by omega)) (by decide) (fun _ => by omega) (by omega) (by omega) (fun r hr h => by rw [← hp]; rw [← hp] at hr; exact hr) hq82
    try dsimp only [Option.toList, List.cons_append, List.nil_append, s1C, s2C, dlC, kyC, Nat.beq, lkC, rcd, rno, rsw]
    refine hB _ _ _ _ _ (fun m83 hm83 => ?_)
    dsimp only [ucgo, ucwp, ucsC, uqC, uoC, ctC, rfd, KX3_judgeExp, KX3_judgeExp_0, KX3_judgeExp_84, KX3_judgeExp_92, KX3_judgeExp_100, KX3_judgeExp_108, KX3_judgeExp_116, KX3_judgeExp_124, KX3_judgeExp_132, KX3_judgeExp_140, KX3_judgeExp_148, KX3_judgeExp_156, lkC, s1C, s2C, dlC, kyC, Nat.beq, Nat.ble, rcd, rno, rsw, Nat.reduceAdd, Nat.reduceBEq, Nat.reduceDiv, List.drop, List.take, List.reverse, List.reverseAux, Int.toNat, Option.toList, List.append, List.cons_append, List.nil_append, zg60]
    try dsimp only [Qz_judgeExp]
    exact fun τ9 h9 => ⟨rfl, JoC.we h9 hjo⟩
  have g80 : ¬ ((fIC σ p1 60) : Int32).toInt = 7 := h80
  refine ⟨fun h84 => ?_, fun h84 => ?_⟩
  · have g84 : ((fIC σ p1 60) : Int32).toInt = 8 := h84
    refine hB _ _ _ _ _ (fun m85 hm85 => ?_)
    dsimp only [ucgo, ucwp, ucsC, uqC, uoC, ctC, rfd, KX3_judgeExp, KX3_judgeExp_0, KX3_judgeExp_84, KX3_judgeExp_92, KX3_judgeExp_100, KX3_judgeExp_108, KX3_judgeExp_116, KX3_judgeExp_124, KX3_judgeExp_132, KX3_judgeExp_140, KX3_judgeExp_148, KX3_judgeExp_156, lkC, s1C, s2C, dlC, kyC, Nat.beq, Nat.ble, rcd, rno, rsw, Nat.reduceAdd, Nat.reduceBEq, Nat.reduceDiv, List.drop, List.take, List.reverse, List.reverseAux, Int.toNat, Option.toList, List.append, List.cons_append, List.nil_append, zg60]
    intro w86 τ86 o86 q86
    have hoa := hop _ (by rw [op_8 (by omega)]; exact List.mem_cons_of_mem _ (List.mem_cons_of_mem _ List.mem_cons_self))
    have hra_ := opA_s (A := A) hoa.1.1
    have hob := hop _ (by rw [op_8 (by omega)]; exact List.mem_cons_of_mem _ List.mem_cons_self)
    have hrb_ := opA_s (A := A) hob.1.1
    have hoc := hop _ (by rw [op_8 (by omega)]; exact List.mem_cons_self)
    have hrc_ := opA_s (A := A) hoc.1.1
    have hq86 := q86 (N, E, A, B, V, z, xth z i, T.1 i, A ((xth z i).2.2.1.2.1).toNat, opT T ((xth z i).2.2.1.2.1), A ((xth z i).2.2.1.2.2.1).toNat, opT T ((xth z i).2.2.1.2.2.1), A ((xth z i).2.2.1.2.2.2.1).toNat, opT T ((xth z i).2.2.1.2.2.2.1)) ⟨_, rfl, hP, he, hlt, hx, ht, (by omega), (hrf.1.trans hra_), (by rw [hp]; exact hoa.2.1), hoa.2.2.1, hoa.2.2.2, (hrf.2.1.trans hrb_), (by rw [hp]; exact hob.2.1), hob.2.2.1, hob.2.2.2, (hrf.2.2.trans hrc_), (by rw [hp]; exact hoc.2.1), hoc.2.2.1, hoc.2.2.2⟩
    obtain ⟨rfl, hq86⟩ := hq86
    rw [hp] at hq86
    have hjo := JoC.q (M := [68, 70, 71]) hS hJ hi (ex_8 (by omega)) (by decide) (fun h => absurd h (by decide)) (by omega) (by omega) (fun r hr h => by omega) hq86
    try dsimp only [Option.toList, List.cons_append, List.nil_append, s1C, s2C, dlC, kyC, Nat.beq, lkC, rcd, rno, rsw]
    refine hB _ _ _ _ _ (fun m87 hm87 => ?_)
    dsimp only [ucgo, ucwp, ucsC, uqC, uoC, ctC, rfd, KX3_judgeExp, KX3_judgeExp_0, KX3_judgeExp_84, KX3_judgeExp_92, KX3_judgeExp_100, KX3_judgeExp_108, KX3_judgeExp_116, KX3_judgeExp_124, KX3_judgeExp_132, KX3_judgeExp_140, KX3_judgeExp_148, KX3_judgeExp_156, lkC, s1C, s2C, dlC, kyC, Nat.beq, Nat.ble, rcd, rno, rsw, Nat.reduceAdd, Nat.reduceBEq, Nat.reduceDiv, List.drop, List.take, List.reverse, List.reverseAux, Int.toNat, Option.toList, List.append, List.cons_append, List.nil_append, zg60]
    try dsimp only [Qz_judgeExp]
    exact fun τ9 h9 => ⟨rfl, JoC.we h9 hjo⟩
  have g84 : ¬ ((fIC σ p1 60) : Int32).toInt = 8 := h84
  refine ⟨fun h88 => ?_, fun h88 => ?_⟩
  · have g88 : ((fIC σ p1 60) : Int32).toInt = 9 := h88
    refine hB _ _ _ _ _ (fun m89 hm89 => ?_)
    dsimp only [ucgo, ucwp, ucsC, uqC, uoC, ctC, rfd, KX3_judgeExp, KX3_judgeExp_0, KX3_judgeExp_84, KX3_judgeExp_92, KX3_judgeExp_100, KX3_judgeExp_108, KX3_judgeExp_116, KX3_judgeExp_124, KX3_judgeExp_132, KX3_judgeExp_140, KX3_judgeExp_148, KX3_judgeExp_156, lkC, s1C, s2C, dlC, kyC, Nat.beq, Nat.ble, rcd, rno, rsw, Nat.reduceAdd, Nat.reduceBEq, Nat.reduceDiv, List.drop, List.take, List.reverse, List.reverseAux, Int.toNat, Option.toList, List.append, List.cons_append, List.nil_append, zg60]
    intro w90 τ90 o90 q90
    have hob := hop _ (by rw [op_9 (by omega)]; exact List.mem_cons_self)
    have hrb_ := opA_s (A := A) hob.1.1
    have hq90 := q90 (N, E, A, B, V, z, CzT N z ms, xth z i, T.1 i, A ((xth z i).2.2.1.2.2.1).toNat, opT T ((xth z i).2.2.1.2.2.1)) ⟨_, rfl, hP, he, hlt, hx, ht, (by omega), hV, (hrf.2.1.trans hrb_), (by rw [hp]; exact hob.2.1), hob.2.2.1, hob.2.2.2⟩
    obtain ⟨rfl, hq90⟩ := hq90
    rw [hp] at hq90
    have hjo := JoC.q (M := [68, 69, 70, 71]) hS hJ hi (ex_9 (by omega)) (by decide) (fun _ => by omega) (by omega) (by omega) (fun r hr h => by rw [← hp]; rw [← hp] at hr; exact hr) hq90
    try dsimp only [Option.toList, List.cons_append, List.nil_append, s1C, s2C, dlC, kyC, Nat.beq, lkC, rcd, rno, rsw]
    refine hB _ _ _ _ _ (fun m91 hm91 => ?_)
    dsimp only [ucgo, ucwp, ucsC, uqC, uoC, ctC, rfd, KX3_judgeExp, KX3_judgeExp_0, KX3_judgeExp_84, KX3_judgeExp_92, KX3_judgeExp_100, KX3_judgeExp_108, KX3_judgeExp_116, KX3_judgeExp_124, KX3_judgeExp_132, KX3_judgeExp_140, KX3_judgeExp_148, KX3_judgeExp_156, lkC, s1C, s2C, dlC, kyC, Nat.beq, Nat.ble, rcd, rno, rsw, Nat.reduceAdd, Nat.reduceBEq, Nat.reduceDiv, List.drop, List.take, List.reverse, List.reverseAux, Int.toNat, Option.toList, List.append, List.cons_append, List.nil_append, zg60]
    try dsimp only [Qz_judgeExp]
    exact fun τ9 h9 => ⟨rfl, JoC.we h9 hjo⟩
  have g88 : ¬ ((fIC σ p1 60) : Int32).toInt = 9 := h88
  refine ⟨fun h92 => ?_, fun h92 => ?_⟩
  · have g92 : ((fIC σ p1 60) : Int32).toInt = 10 := h92
    refine hB _ _ _ _ _ (fun m93 hm93 => ?_)
    dsimp only [ucgo, ucwp, ucsC, uqC, uoC, ctC, rfd, KX3_judgeExp, KX3_judgeExp_0, KX3_judgeExp_84, KX3_judgeExp_92, KX3_judgeExp_100, KX3_judgeExp_108, KX3_judgeExp_116, KX3_judgeExp_124, KX3_judgeExp_132, KX3_judgeExp_140, KX3_judgeExp_148, KX3_judgeExp_156, lkC, s1C, s2C, dlC, kyC, Nat.beq, Nat.ble, rcd, rno, rsw, Nat.reduceAdd, Nat.reduceBEq, Nat.reduceDiv, List.drop, List.take, List.reverse, List.reverseAux, Int.toNat, Option.toList, List.append, List.cons_append, List.nil_append, zg60]
    intro w94 τ94 o94 q94
    have hch := hS.1.1.2.2.2.2.1.2 i hi
    have hch2 : ChC A σ (xth z i).2.2.2 := ChC.cg (fun a9 _ => (hJ.1.1 _ 75 (by decide)).2.2) hch.2
    have hca : (xth z i).2.2.1.2.1 = (xth z i).2.2.2.headD (-1) := hcal i hi (by omega)
    have hao : ∀ q ∈ (xth z i).2.2.2, OpP A z σ T i q := fun q hq => hop q (by rw [op_10 (by omega)]; exact List.mem_reverse.mpr hq)
    have har : ArC σ (fRC σ p1 72) ((xth z i).2.2.2.map (fun q => A q.toNat)) := by
      rw [hrf.1, hca]
      have q9 := ar_c hch2
      cases hl : (xth z i).2.2.2 with
      | nil => rw [hl] at q9; exact q9
      | cons b l =>
        rw [hl] at q9
        have q8 := hao b (by rw [hl]; exact List.mem_cons_self)
        rw [show (b :: l).headD (-1) = b from rfl, opA_s q8.1.1]
        exact q9
    have hag : agT T (xth z i).2.2.2 = agO σ ((xth z i).2.2.2.map (fun q => A q.toNat)) := by
      unfold agT agO
      rw [List.map_map]
      refine List.map_congr_left (fun q hq => ?_)
      exact (hao q hq).2.2.1.1.symm
    have hnf : ∀ o ∈ (xth z i).2.2.2.map (fun q => A q.toNat), ¬ (fIC σ o 68).toInt = -1 := by
      intro o ho
      obtain ⟨q, hq, rfl⟩ := List.mem_map.mp ho
      rw [(hao q hq).2.2.1.1]
      exact (hao q hq).2.2.2
    have hq94 := q94 (N, E, A, B, V, z, CzT N z ms, nm, (xth z i).2.2.2.map (fun q => A q.toNat), T, xth z i, T.1 i) ⟨_, rfl, hP, he, hlt, hx, ht, (by omega), hJ.ma hS, (hJ.tn hS).1, (by rw [(hJ.tn hS).2]; exact congrArg N (by have := hcf i hi (by omega); omega)), har, hag, hnf, (by rw [List.length_map]; exact hcl i hi (by omega))⟩
    obtain ⟨rfl, hq94⟩ := hq94
    rw [hp] at hq94
    have hjo := JoC.c hS hJ hi (by omega) (ex_10 (by omega)) hq94
    try dsimp only [Option.toList, List.cons_append, List.nil_append, s1C, s2C, dlC, kyC, Nat.beq, lkC, rcd, rno, rsw]
    refine hB _ _ _ _ _ (fun m95 hm95 => ?_)
    dsimp only [ucgo, ucwp, ucsC, uqC, uoC, ctC, rfd, KX3_judgeExp, KX3_judgeExp_0, KX3_judgeExp_84, KX3_judgeExp_92, KX3_judgeExp_100, KX3_judgeExp_108, KX3_judgeExp_116, KX3_judgeExp_124, KX3_judgeExp_132, KX3_judgeExp_140, KX3_judgeExp_148, KX3_judgeExp_156, lkC, s1C, s2C, dlC, kyC, Nat.beq, Nat.ble, rcd, rno, rsw, Nat.reduceAdd, Nat.reduceBEq, Nat.reduceDiv, List.drop, List.take, List.reverse, List.reverseAux, Int.toNat, Option.toList, List.append, List.cons_append, List.nil_append, zg60]
    try dsimp only [Qz_judgeExp]
    exact fun τ9 h9 => ⟨rfl, JoC.we h9 hjo⟩
  have g92 : ¬ ((fIC σ p1 60) : Int32).toInt = 10 := h92
  refine ⟨fun h96 => ?_, fun h96 => ?_⟩
  · have g96 : ((fIC σ p1 60) : Int32).toInt = 11 := h96
    refine hB _ _ _ _ _ (fun m97 hm97 => ?_)
    dsimp only [ucgo, ucwp, ucsC, uqC, uoC, ctC, rfd, KX3_judgeExp, KX3_judgeExp_0, KX3_judgeExp_84, KX3_judgeExp_92, KX3_judgeExp_100, KX3_judgeExp_108, KX3_judgeExp_116, KX3_judgeExp_124, KX3_judgeExp_132, KX3_judgeExp_140, KX3_judgeExp_148, KX3_judgeExp_156, lkC, s1C, s2C, dlC, kyC, Nat.beq, Nat.ble, rcd, rno, rsw, Nat.reduceAdd, Nat.reduceBEq, Nat.reduceDiv, List.drop, List.take, List.reverse, List.reverseAux, Int.toNat, Option.toList, List.append, List.cons_append, List.nil_append, zg60]
    try dsimp only [Qz_judgeExp]
    exact fun τ9 h9 => ⟨rfl, Or.inr ⟨_, ex_o (by omega), hJ.no (by omega) h9⟩⟩
  have g96 : ¬ ((fIC σ p1 60) : Int32).toInt = 11 := h96
  refine ⟨fun h98 => ?_, fun h98 => ?_⟩
  · have g98 : ((fIC σ p1 60) : Int32).toInt = 12 := h98
    refine hB _ _ _ _ _ (fun m99 hm99 => ?_)
    dsimp only [ucgo, ucwp, ucsC, uqC, uoC, ctC, rfd, KX3_judgeExp, KX3_judgeExp_0, KX3_judgeExp_84, KX3_judgeExp_92, KX3_judgeExp_100, KX3_judgeExp_108, KX3_judgeExp_116, KX3_judgeExp_124, KX3_judgeExp_132, KX3_judgeExp_140, KX3_judgeExp_148, KX3_judgeExp_156, lkC, s1C, s2C, dlC, kyC, Nat.beq, Nat.ble, rcd, rno, rsw, Nat.reduceAdd, Nat.reduceBEq, Nat.reduceDiv, List.drop, List.take, List.reverse, List.reverseAux, Int.toNat, Option.toList, List.append, List.cons_append, List.nil_append, zg60]
    try dsimp only [Qz_judgeExp]
    exact fun τ9 h9 => ⟨rfl, Or.inr ⟨_, ex_o (by omega), hJ.no (by omega) h9⟩⟩
  have g98 : ¬ ((fIC σ p1 60) : Int32).toInt = 12 := h98
  refine ⟨fun h100 => ?_, fun h100 => ?_⟩
  · have g100 : ((fIC σ p1 60) : Int32).toInt = 13 := h100
    refine hB _ _ _ _ _ (fun m101 hm101 => ?_)
    dsimp only [ucgo, ucwp, ucsC, uqC, uoC, ctC, rfd, KX3_judgeExp, KX3_judgeExp_0, KX3_judgeExp_84, KX3_judgeExp_92, KX3_judgeExp_100, KX3_judgeExp_108, KX3_judgeExp_116, KX3_judgeExp_124, KX3_judgeExp_132, KX3_judgeExp_140, KX3_judgeExp_148, KX3_judgeExp_156, lkC, s1C, s2C, dlC, kyC, Nat.beq, Nat.ble, rcd, rno, rsw, Nat.reduceAdd, Nat.reduceBEq, Nat.reduceDiv, List.drop, List.take, List.reverse, List.reverseAux, Int.toNat, Option.toList, List.append, List.cons_append, List.nil_append, zg60]
    try dsimp only [Qz_judgeExp]
    exact fun τ9 h9 => ⟨rfl, Or.inr ⟨_, ex_o (by omega), hJ.no (by omega) h9⟩⟩
  have g100 : ¬ ((fIC σ p1 60) : Int32).toInt = 13 := h100
  refine ⟨fun h102 => ?_, fun h102 => ?_⟩
  · have g102 : ((fIC σ p1 60) : Int32).toInt = 14 := h102
    refine hB _ _ _ _ _ (fun m103 hm103 => ?_)
    dsimp only [ucgo, ucwp, ucsC, uqC, uoC, ctC, rfd, KX3_judgeExp, KX3_judgeExp_0, KX3_judgeExp_84, KX3_judgeExp_92, KX3_judgeExp_100, KX3_judgeExp_108, KX3_judgeExp_116, KX3_judgeExp_124, KX3_judgeExp_132, KX3_judgeExp_140, KX3_judgeExp_148, KX3_judgeExp_156, lkC, s1C, s2C, dlC, kyC, Nat.beq, Nat.ble, rcd, rno, rsw, Nat.reduceAdd, Nat.reduceBEq, Nat.reduceDiv, List.drop, List.take, List.reverse, List.reverseAux, Int.toNat, Option.toList, List.append, List.cons_append, List.nil_append, zg60]
    try dsimp only [Qz_judgeExp]
    exact fun τ9 h9 => ⟨rfl, Or.inr ⟨_, ex_o (by omega), hJ.no (by omega) h9⟩⟩
  have g102 : ¬ ((fIC σ p1 60) : Int32).toInt = 14 := h102
  refine ⟨fun h104 => ?_, fun h104 => ?_⟩
  · have g104 : ((fIC σ p1 60) : Int32).toInt = 15 := h104
    refine hB _ _ _ _ _ (fun m105 hm105 => ?_)
    dsimp only [ucgo, ucwp, ucsC, uqC, uoC, ctC, rfd, KX3_judgeExp, KX3_judgeExp_0, KX3_judgeExp_84, KX3_judgeExp_92, KX3_judgeExp_100, KX3_judgeExp_108, KX3_judgeExp_116, KX3_judgeExp_124, KX3_judgeExp_132, KX3_judgeExp_140, KX3_judgeExp_148, KX3_judgeExp_156, lkC, s1C, s2C, dlC, kyC, Nat.beq, Nat.ble, rcd, rno, rsw, Nat.reduceAdd, Nat.reduceBEq, Nat.reduceDiv, List.drop, List.take, List.reverse, List.reverseAux, Int.toNat, Option.toList, List.append, List.cons_append, List.nil_append, zg60]
    intro w106 τ106 o106 q106
    have hoa := hop _ (by rw [op_1 (by omega)]; exact List.mem_singleton.mpr rfl)
    have hra_ := opA_s (A := A) hoa.1.1
    have hq106 := q106 (N, E, A, B, V, z, CzT N z ms, xth z i, T.1 i, A ((xth z i).2.2.1.2.1).toNat, opT T ((xth z i).2.2.1.2.1)) ⟨_, rfl, hP, he, hlt, hx, ht, (by omega), hV, (hS.1.2.2 i hi (by omega)), (hrf.1.trans hra_), hoa.2.2.1, hoa.2.2.2⟩
    obtain ⟨rfl, hq106⟩ := hq106
    have hjo := JoC.s hS hJ (by omega) hi (ex_15 (by omega)) hq106 (fun r9 q9 => by
      unfold xsT at q9
      split at q9
      · cases q9; rfl
      · cases q9)
    try dsimp only [Option.toList, List.cons_append, List.nil_append, s1C, s2C, dlC, kyC, Nat.beq, lkC, rcd, rno, rsw]
    refine hB _ _ _ _ _ (fun m107 hm107 => ?_)
    dsimp only [ucgo, ucwp, ucsC, uqC, uoC, ctC, rfd, KX3_judgeExp, KX3_judgeExp_0, KX3_judgeExp_84, KX3_judgeExp_92, KX3_judgeExp_100, KX3_judgeExp_108, KX3_judgeExp_116, KX3_judgeExp_124, KX3_judgeExp_132, KX3_judgeExp_140, KX3_judgeExp_148, KX3_judgeExp_156, lkC, s1C, s2C, dlC, kyC, Nat.beq, Nat.ble, rcd, rno, rsw, Nat.reduceAdd, Nat.reduceBEq, Nat.reduceDiv, List.drop, List.take, List.reverse, List.reverseAux, Int.toNat, Option.toList, List.append, List.cons_append, List.nil_append, zg60]
    try dsimp only [Qz_judgeExp]
    exact fun τ9 h9 => ⟨rfl, JoC.we h9 hjo⟩
  have g104 : ¬ ((fIC σ p1 60) : Int32).toInt = 15 := h104
  refine hB _ _ _ _ _ (fun m108 hm108 => ?_)
  dsimp only [ucgo, ucwp, ucsC, uqC, uoC, ctC, rfd, KX3_judgeExp, KX3_judgeExp_0, KX3_judgeExp_84, KX3_judgeExp_92, KX3_judgeExp_100, KX3_judgeExp_108, KX3_judgeExp_116, KX3_judgeExp_124, KX3_judgeExp_132, KX3_judgeExp_140, KX3_judgeExp_148, KX3_judgeExp_156, lkC, s1C, s2C, dlC, kyC, Nat.beq, Nat.ble, rcd, rno, rsw, Nat.reduceAdd, Nat.reduceBEq, Nat.reduceDiv, List.drop, List.take, List.reverse, List.reverseAux, Int.toNat, Option.toList, List.append, List.cons_append, List.nil_append, zg60]
  try dsimp only [Qz_judgeExp]
  exact fun τ9 h9 => ⟨rfl, Or.inr ⟨_, ex_o (by omega), hJ.no (by omega) h9⟩⟩
theorem wz_judgeExp : ∀ (L : Nat) (As : List AvC) (σ : CsC) (w : Option AvC) (τ : CsC), EvF L 53 As σ w τ → Uz_judgeExp As σ w τ := by
  intro L
  cases L with
  | zero => exact fun _ _ _ _ h => h.elim
  | succ L => exact fun As σ w τ h y hy => EvF.us (cs := [54, 55, 56, 60, 69, 71, 61, 76, 79]) (pz_judgeExp y) rfl (List.forall_mem_cons.2 ⟨wz_judgeNumber L, List.forall_mem_cons.2 ⟨wz_judgeName L, List.forall_mem_cons.2 ⟨wz_judgeOfOne L, List.forall_mem_cons.2 ⟨wz_judgeCount L, List.forall_mem_cons.2 ⟨wz_judgeChain L, List.forall_mem_cons.2 ⟨wz_judgeChoice L, List.forall_mem_cons.2 ⟨wz_judgeAssignment L, List.forall_mem_cons.2 ⟨wz_judgeCall L, List.forall_mem_cons.2 ⟨wz_judgeStore L, fun _ h => absurd h List.not_mem_nil⟩⟩⟩⟩⟩⟩⟩⟩⟩) h hy
