theorem acc_v {ty f : Int} {s : SpC} : (accY (vadY ty f s)).1 = (accY s).1 ∧ (accY (vadY ty f s)).2 = (vadY ty f s).2 := by
  refine ⟨?_, acc2⟩
  show (if 500 ≤ zAt s then (if zFt s = 0 then ((zAt s, (if zK s (zAt s).toNat = 85 then (1 : Int) else 3), zL s (zAt s).toNat), (vadY ty f s).2) else vadY ty f s) else if zFt s = 0 then ((zAt s + 1, zFt s, zPl s), (vadY ty f s).2) else vadY ty f s).1 = (if 500 ≤ zAt s then (if zFt s = 0 then ((zAt s, (if zK s (zAt s).toNat = 85 then (1 : Int) else 3), zL s (zAt s).toNat), s.2) else s) else if zFt s = 0 then ((zAt s + 1, zFt s, zPl s), s.2) else s).1
  by_cases a : 500 ≤ zAt s <;> by_cases b : zFt s = 0
  · rw [if_pos a, if_pos a, if_pos b, if_pos b]
  · rw [if_pos a, if_pos a, if_neg b, if_neg b]; rfl
  · rw [if_neg a, if_neg a, if_pos b, if_pos b]
  · rw [if_neg a, if_neg a, if_neg b, if_neg b]; rfl
theorem vlR_l {σ : RS} : ∀ n, (vlR σ n).length = n := by
  intro n
  induction n with
  | zero => rfl
  | succ n ih => rw [vlR, List.length_cons, ih]
theorem mlR_l {σ : RS} : ∀ n, (mlR σ n).length = n := by
  intro n
  induction n with
  | zero => rfl
  | succ n ih => rw [mlR, List.length_cons, ih]
theorem nT_eqN {x : Int32} {k : Nat} (h : x.toInt = k) : nT x = k := by
  show x.toInt.toNat = k
  omega
theorem SR.va {e : Nat} {σ τ : RS} {s : SpC} {n : Nat} {ty f : Int32} (h : SRx e σ s n) (hF : frR σ ≠ []) (v : VaR σ τ ty f) (x : ShR τ (accY s)) (hz : zAt s < 500) : SRx e τ (accY (vadY ty.toInt f.toInt s)) n ∧ (FgR σ 0 → FgR τ 0) ∧ frR τ = frR σ := by
  have v0 := v
  obtain ⟨p1, p2, p3, ⟨q1, q2, q3, q4⟩, p5⟩ := v
  have hfr : frR τ = frR σ := frR_c (p5 63 (by omega)) (p1 62 (by decide) (by decide))
  have cg : CgR σ τ := CgR.rf (p1 18 (by decide) (by decide)) (p5 19 (by omega)) (p5 20 (by omega))
  have hm := h.2.2.2.2
  have h62 : ¬ gI σ 62 = 0 := fun q => hF (frR_nil (by rw [q]; decide))
  have h6 : 0 < gI σ 36 := h.2.2.1.2.2.resolve_left hF
  have ml : (zMs s).length = nT (gI σ 36) := by rw [hm.2.1, mlR_l]
  have en := nT_add p3.1 (show gI σ 42 < 2147483647 by lia)
  have vv := v0.vv hm.1 (by rw [if_neg h62]; exact ml) hm.2.2.1 (fun q => by rw [q] at h6; exact absurd h6 (by decide)) h.1.2.1.1
  have e1 := @acc_v ty.toInt f.toInt s
  have hsh : ShR τ (accY (vadY ty.toInt f.toInt s)) := x.s2 e1.1 (by rw [e1.2, acc2]; rfl)
  refine ⟨⟨hsh, by rw [p1 17 (by decide) (by decide), hfr]; exact h.2.1, by rw [hfr, p1 62 (by decide) (by decide), p1 36 (by decide) (by decide)]; exact h.2.2.1, h.2.2.2.1.g cg (p1 62 (by decide) (by decide)) (by rw [p1 49 (by decide) (by decide)]; exact Nat.le_refl _) (p5 63 (by omega)) (p5 64 (by omega)) (fun i _ => by rw [p5 51 (by omega)]), ?_, ?_, ?_, ?_⟩, fun g => g.g h.2.2.2.1 cg (p1 62 (by decide) (by decide)) (p5 63 (by omega)) (p5 64 (by omega)) (fun i _ => by rw [p5 51 (by omega)]), hfr⟩
  · unfold VvR at vv ⊢
    have : zVs (accY (vadY ty.toInt f.toInt s)) = zVs (vadY ty.toInt f.toInt s) := by unfold zVs; rw [e1.2]
    rw [this]
    exact vv
  · have : zMs (accY (vadY ty.toInt f.toInt s)) = zMs s := by unfold zMs; rw [e1.2]; rfl
    rw [this, p1 36 (by decide) (by decide), mlR_up (p5 37 (by omega)) (p5 38 (by omega)) (p5 39 (by omega)) (p5 40 (by omega)) q2 _ hm.2.2.2]
    exact hm.2.1
  · rw [p1 36 (by decide) (by decide)]
    exact hm.2.2.1
  · intro m hm'
    rw [p1 36 (by decide) (by decide)] at hm'
    rw [p5 39 (by omega), p5 40 (by omega), p2, en]
    have := hm.2.2.2 m hm'
    omega
theorem va2_y {n : Nat} {f : Int} {t : SpC} (h : codY t = 8) : va2Y n f t = eY n (accY t) := by
  unfold va2Y
  rw [if_pos (Or.inr h), xp_y h]
theorem va2_c {n : Nat} {t : SpC} (h : ¬ codY t = 8) : va2Y n 1 t = eY n (raiY 2 t) := by
  unfold va2Y
  rw [if_pos (Or.inl rfl), xp_n h]
theorem va2_n {n : Nat} {t : SpC} (h : ¬ codY t = 8) : va2Y n 0 t = t := by
  unfold va2Y
  rw [if_neg (by omega)]
theorem var_1 {n : Nat} {s : SpC} (h : codY s = 71) : varY n s = va2Y n 1 (dclY (tyvY (accY s)) 1 1 (typY (accY s))) := by unfold varY; rw [if_pos h]
theorem var_0 {n : Nat} {s : SpC} (h : ¬ codY s = 71) : varY n s = va2Y n 0 (dclY (tyvY s) 0 1 (typY s)) := by unfold varY; rw [if_neg h]
theorem tyv_y {s : SpC} (h : 50 ≤ codY s ∧ codY s ≤ 54) : tyvY s = codY s - 50 := by unfold tyvY; rw [if_pos h]
theorem SR.a5 {e : Nat} {σ : RS} {s : SpC} {n : Nat} (h : SRx e σ s n) : 0 ≤ zAt s ∧ zAt s ≤ 500 := h.1.a5
/-- one level up, the frame still there; then the frame is popped -/
theorem SR.up1 {e : Nat} {σ : RS} {s : SpC} {n : Nat} (h : SRx e σ s n) (hn : n ≤ 21) : SRx (e + 1) (sI σ 17 (gI σ 17 - 1)) s (n + 1) := by
  have h1 := h.2.1
  refine ⟨h.1.kp rfl rfl rfl rfl rfl rfl, ⟨?_, by omega, ?_⟩, h.2.2.1, h.2.2.2.1, h.2.2.2.2.c rfl rfl rfl (fun _ _ => rfl)⟩
  · show (gI σ 17 - 1).toInt + _ = _
    rw [i32_sub (by omega) (by omega)]
    omega
  · show _ + (frR σ).length = _
    omega
theorem SR.pop1 {σ : RS} {s : SpC} {n : Nat} (h : SRx 1 σ s n) (h0 : 0 < gI σ 62) : SR (sI σ 62 (gI σ 62 - 1)) s n ∧ FgR (sI σ 62 (gI σ 62 - 1)) 0 := by
  have e := nT_sub h0
  have p := frR_pop h0
  have l : (frR σ).length = (frR (sI σ 62 (gI σ 62 - 1))).length + 1 := by rw [p]; rfl
  have h1 := h.2.1
  refine ⟨⟨h.1.kp rfl rfl rfl rfl rfl rfl, ⟨h1.1, h1.2.1, by omega⟩, ⟨?_, ?_, ?_⟩, ?_, h.2.2.2.2.c rfl rfl rfl (fun _ _ => rfl)⟩, ?_⟩
  · have q := h.2.2.1.1
    rw [p] at q
    exact q.2.2
  · show 0 ≤ gI σ 62 - 1
    lia
  · exact Or.inr (h.2.2.1.2.2.resolve_left (fun q => by rw [p] at q; cases q))
  · intro i hi
    have hi : i < nT (gI σ 62 - 1) := hi
    have q := h.2.2.2.1 i (by omega)
    exact ⟨q.1, fun z1 => ⟨(q.2 z1).1, fun z2 => (q.2 z1).2 (by have z2 : i + 1 < nT (gI σ 62 - 1) := z2; omega)⟩⟩
  · refine ⟨Or.inl rfl, fun i hi z => ?_⟩
    have hi : i + 1 = nT (gI σ 62 - 1) := hi
    have q := h.2.2.2.1 i (by omega)
    exact ⟨fun _ => (q.2 z).2 (by omega), fun _ => rfl⟩
/-- the frame on top becomes an else -/
theorem SR.fs {σ τ : RS} {s : SpC} {n : Nat} (h : SRx 1 σ s (n + 1)) (h0 : 0 < gI σ 62) (h2 : aI σ 63 (gI σ 62 - 1).toNatClampNeg = 2) (x : XrR (sA σ 63 (upd (aI σ 63) (gI σ 62 - 1).toNatClampNeg 3)) τ s n) (s1 : S1 17 (sA σ 63 (upd (aI σ 63) (gI σ 62 - 1).toNatClampNeg 3)) τ) : SR τ s n ∧ FgR τ 0 ∧ frR τ = 3 :: frR (sI σ 62 (gI σ 62 - 1)) := by
  have e := nT_sub h0
  have p := frR_pop h0
  have l : (frR σ).length = (frR (sI σ 62 (gI σ 62 - 1))).length + 1 := by rw [p]; rfl
  have h1 := h.2.1
  have e62 : gI τ 62 = gI σ 62 := s1.1 62 (by decide)
  have a63 : aI τ 63 = upd (aI σ 63) (nT (gI σ 62 - 1)) 3 := (s1.2 63).trans aI_eq
  have ea : ∀ j, j ≠ 63 → aI τ j = aI σ j := fun j hj => (s1.2 j).trans (aI_ne hj)
  have ei : ∀ j, j ≠ 17 → gI τ j = gI σ j := fun j hj => s1.1 j hj
  have cg : CgR σ τ := CgR.rf (ei 18 (by decide)) (ea 19 (by decide)) (ea 20 (by decide))
  have f : frR τ = 3 :: frR (sI σ 62 (gI σ 62 - 1)) := by
    unfold frR
    rw [e62, e, a63]
    show (upd _ _ _ _).toInt :: _ = _
    rw [upd_eq, olY_upd _ (Nat.le_refl _)]
    rfl
  refine ⟨⟨x.1, ⟨x.2.1.1, x.2.1.2, by rw [f, List.length_cons]; omega⟩, ⟨?_, by rw [e62]; exact h.2.2.1.2.1, Or.inr ?_⟩, ?_, h.2.2.2.2.c rfl (ei 36 (by decide)) (ei 42 (by decide)) (fun j hj => ea j (by omega))⟩, ?_, f⟩
  · have q := h.2.2.1.1
    rw [p, h2] at q
    rw [f]
    exact ⟨by decide, ⟨fun z => absurd z (by decide), fun z => absurd (q.2.1.mpr z) (by decide)⟩, q.2.2⟩
  · rw [ei 36 (by decide)]
    exact h.2.2.1.2.2.resolve_left (fun q => by rw [p] at q; cases q)
  · intro i hi
    rw [e62] at hi
    have q := h.2.2.2.1 i hi
    rw [a63, ea 64 (by decide), e62, ei 49 (by decide)]
    refine ⟨q.1, fun z1 => ?_⟩
    by_cases z : i = nT (gI σ 62 - 1)
    · subst z
      rw [upd_eq] at z1
      exact absurd z1 (by decide)
    · rw [upd_ne z] at z1
      rw [ea 51 (by decide), ei 18 (by decide)]
      exact ⟨(q.2 z1).1, fun z2 => ((q.2 z1).2 z2).g (by rw [ea 51 (by decide)]) cg⟩
  · refine ⟨Or.inl rfl, fun i hi z => ?_⟩
    rw [e62] at hi
    obtain rfl : i = nT (gI σ 62 - 1) := by omega
    rw [a63, upd_eq] at z
    exact absurd z (by decide)
theorem rwk_in {σ : RS} {s : SpC} {n e : Nat} {F : List Int} {T : Int32} (h : SRx e σ s n) (p : frR σ = T.toInt :: F) (q : (T = 0 ∨ T = 1 ∨ 9 ≤ T) ∨ T = 8) : rwkY T.toInt := by
  have w := h.2.2.1.1
  rw [p] at w
  have b := w.1
  rcases q with (rfl | rfl | q) | rfl
  · decide
  · decide
  · have := Int32.le_iff_toInt_le.mp q
    have : 9 ≤ T.toInt := this
    unfold rwkY
    omega
  · decide
theorem SR.sh {e : Nat} {σ : RS} {s : SpC} {n : Nat} (h : SRx e σ s n) : ShR σ s := h.1
theorem SR.vv {e : Nat} {σ : RS} {s : SpC} {n : Nat} (h : SRx e σ s n) : VvR σ s := h.2.2.2.2.1
theorem SR.z {e : Nat} {σ : RS} {s : SpC} {n : Nat} (h : SRx e σ s n) : zFt s = 0 := h.1.1.1
theorem SR.dp {e : Nat} {σ : RS} {s : SpC} {n : Nat} (h : SRx e σ s n) : (gI σ 17).toInt + n = 21 ∧ 1 ≤ n := ⟨h.2.1.1, h.2.1.2.1⟩
def Pv_variable (s : SpC) (n : Nat) : UP1 := fun A1 σ => match A1 with
  | [.int type, .int fixed, .int k] => ShR σ s ∧ ((gI σ 17).toInt + n = 21 ∧ 1 ≤ n) ∧ codY s = 80 ∧ VvR σ s
  | _ => False
def Qv_variable (s : SpC) (n : Nat) : UQ1 := fun A1 σ w τ => match A1 with
  | [.int type, .int fixed, .int k] => (w = some (.int 0) ∧ FlR τ (dclY type.toInt fixed.toInt 1 s)) ∨ (w = some (.int 1) ∧ ShR τ (accY s) ∧ zAt s < 500 ∧ ¬ 60 ≤ (zVs s).length ∧ VaR σ τ type fixed)
  | _ => False
def Qw_variable : UQ1 := fun A1 σ w τ => ∀ (s : SpC) (n : Nat), Pv_variable s n A1 σ → Qv_variable s n A1 σ w τ
set_option maxRecDepth 100000 in
set_option maxHeartbeats 4000000 in
theorem v_variable (s : SpC) (n : Nat) : UMet 40 (Pv_variable s n) (Qv_variable s n) := by
  refine UMet.by Bvariable [(17, (fun _ _ => True), Qw_take), (12, (fun _ _ => True), Qw_wrong)] rfl (ucc w_take (ucc w_wrong uc0)) ?_
  intro A1 σ hP K hB hW
  unfold Pv_variable at hP
  split at hP
  next type fixed k =>
    obtain ⟨hS, hd, hc, hv⟩ := hP
    intro n0_
    refine hB _ _ _ _ _ (fun m1 hm1 => ?_)
    dsimp only [ugo, uwp, ust, uct, rfd, Bvariable, Nat.beq, lv_args, rlk, rs1, rs2, rdl, rky, rcd, rno, rsw, Value.category, List.filter, List.take, List.drop, List.reverse, List.reverseAux, List.cons_append, List.nil_append, Option.toList, Int.toNat, Int.reduceToNat, if_pos, if_neg, reduceIte, ↓reduceIte, Nat.reduceAdd, Nat.reduceEqDiff, Nat.reduceBEq, beq_self_eq_true, Bool.not_true, Bool.not_false, Bool.and_true, Bool.and_false, Bool.true_and, Bool.false_and, gI_sI, gI_sL, gI_sA, gI_sM, gL_sI, gL_sL, gL_sA, gL_sM, aI_sI, aI_sL, aI_sA, aI_sM, aL_sI, aL_sL, aL_sA, aL_sM, Bvariable_0, Bvariable_9, Bvariable_19, Bvariable_75, Bvariable_82, Bvariable_89, Bvariable_95, oi_1, oi_3, oi_60, oi_m2]; try dsimp only
    refine ⟨fun h2 => ?_, fun h2 => ?_⟩
    · refine hB _ _ _ _ _ (fun m3 hm3 => ?_)
      dsimp only [ugo, uwp, ust, uct, rfd, Bvariable, Nat.beq, lv_args, rlk, rs1, rs2, rdl, rky, rcd, rno, rsw, Value.category, List.filter, List.take, List.drop, List.reverse, List.reverseAux, List.cons_append, List.nil_append, Option.toList, Int.toNat, Int.reduceToNat, if_pos, if_neg, reduceIte, ↓reduceIte, Nat.reduceAdd, Nat.reduceEqDiff, Nat.reduceBEq, beq_self_eq_true, Bool.not_true, Bool.not_false, Bool.and_true, Bool.and_false, Bool.true_and, Bool.false_and, gI_sI, gI_sL, gI_sA, gI_sM, gL_sI, gL_sL, gL_sA, gL_sM, aI_sI, aI_sL, aI_sA, aI_sM, aL_sI, aL_sL, aL_sA, aL_sM, Bvariable_0, Bvariable_9, Bvariable_19, Bvariable_75, Bvariable_82, Bvariable_89, Bvariable_95, oi_1, oi_3, oi_60, oi_m2]; try dsimp only
      intro p4
      intro p5
      intro p6
      refine ⟨fun h7 => ?_, fun h7 => ?_⟩
      · refine hB _ _ _ _ _ (fun m8 hm8 => ?_)
        dsimp only [ugo, uwp, ust, uct, rfd, Bvariable, Nat.beq, lv_args, rlk, rs1, rs2, rdl, rky, rcd, rno, rsw, Value.category, List.filter, List.take, List.drop, List.reverse, List.reverseAux, List.cons_append, List.nil_append, Option.toList, Int.toNat, Int.reduceToNat, if_pos, if_neg, reduceIte, ↓reduceIte, Nat.reduceAdd, Nat.reduceEqDiff, Nat.reduceBEq, beq_self_eq_true, Bool.not_true, Bool.not_false, Bool.and_true, Bool.and_false, Bool.true_and, Bool.false_and, gI_sI, gI_sL, gI_sA, gI_sM, gL_sI, gL_sL, gL_sA, gL_sM, aI_sI, aI_sL, aI_sA, aI_sM, aL_sI, aL_sL, aL_sA, aL_sM, Bvariable_0, Bvariable_9, Bvariable_19, Bvariable_75, Bvariable_82, Bvariable_89, Bvariable_95, oi_1, oi_3, oi_60, oi_m2]; try dsimp only
        refine hB _ _ _ _ _ (fun m9 hm9 => ?_)
        dsimp only [ugo, uwp, ust, uct, rfd, Bvariable, Nat.beq, lv_args, rlk, rs1, rs2, rdl, rky, rcd, rno, rsw, Value.category, List.filter, List.take, List.drop, List.reverse, List.reverseAux, List.cons_append, List.nil_append, Option.toList, Int.toNat, Int.reduceToNat, if_pos, if_neg, reduceIte, ↓reduceIte, Nat.reduceAdd, Nat.reduceEqDiff, Nat.reduceBEq, beq_self_eq_true, Bool.not_true, Bool.not_false, Bool.and_true, Bool.and_false, Bool.true_and, Bool.false_and, gI_sI, gI_sL, gI_sA, gI_sM, gL_sI, gL_sL, gL_sA, gL_sM, aI_sI, aI_sL, aI_sA, aI_sM, aL_sI, aL_sL, aL_sA, aL_sM, Bvariable_0, Bvariable_9, Bvariable_19, Bvariable_75, Bvariable_82, Bvariable_89, Bvariable_95, oi_1, oi_3, oi_60, oi_m2]; try dsimp only
        intro p10
        intro p11
        intro p12
        refine ⟨trivial, fun w13 τ13 hq13 => ?_⟩
        have hq13 := hq13 _ s n ⟨⟨hS.kp rfl rfl rfl rfl rfl rfl, hd, KR.rf⟩, by omega, by omega⟩
        rcases hq13 with ⟨rfl, hF13⟩ | ⟨rfl, hX13, hz13, hS13⟩
        · dsimp only [Option.toList, List.cons_append, List.nil_append, Nat.beq, gI_sI, gI_sL, gI_sA, gI_sM, gL_sI, gL_sL, gL_sA, gL_sM, aI_sI, aI_sL, aI_sA, aI_sM, aL_sI, aL_sL, aL_sA, aL_sM]
          unfold Qv_variable
          try dsimp only
          have h60 : gI σ 42 < 60 := by have := hv.2.2; lia
          have hl : ¬ 60 ≤ (zVs s).length := by
            rw [hv.1, vlR_l]
            have := nT_lt hv.2.1 h60
            have q : nT (60 : Int32) = 60 := rfl
            omega
          refine Or.inl ⟨rfl, ?_⟩
          rw [dcl_y hS.1.1 hc hl]
          refine FlR.q hF13 ?_
          unfold zFt zPl
          rw [acc_v.1]
          exact ⟨rfl, rfl⟩
        · dsimp only [Option.toList, List.cons_append, List.nil_append, Nat.beq, gI_sI, gI_sL, gI_sA, gI_sM, gL_sI, gL_sL, gL_sA, gL_sM, aI_sI, aI_sL, aI_sA, aI_sM, aL_sI, aL_sL, aL_sA, aL_sM]
          unfold Qv_variable
          try dsimp only
          have h60 : gI σ 42 < 60 := by have := hv.2.2; lia
          have hl : ¬ 60 ≤ (zVs s).length := by
            rw [hv.1, vlR_l]
            have := nT_lt hv.2.1 h60
            have q : nT (60 : Int32) = 60 := rfl
            omega
          refine Or.inr ⟨rfl, hX13.1, hz13, hl, fun j h1 h2 => (hS13.1 j h1).trans (by show gI (sI σ 42 _) j = _; rw [gI_sI, nb_ne h2]), (hS13.1 42 (by decide)).trans rfl, ⟨hv.2.1, h60⟩, ⟨(hS13.2 43).trans rfl, (hS13.2 44).trans rfl, (hS13.2 45).trans rfl, (hS13.2 46).trans ?_⟩, fun j hj => (hS13.2 j).trans ((aI_ne (by omega)).trans ((aI_ne (by omega)).trans ((aI_ne (by omega)).trans ((aI_ne (by omega)).trans ((aI_ne (by omega)).trans ((aI_ne (by omega)).trans rfl))))))⟩
          rw [if_pos (Or.inl (by lia))]
          rfl
      · refine hB _ _ _ _ _ (fun m14 hm14 => ?_)
        dsimp only [ugo, uwp, ust, uct, rfd, Bvariable, Nat.beq, lv_args, rlk, rs1, rs2, rdl, rky, rcd, rno, rsw, Value.category, List.filter, List.take, List.drop, List.reverse, List.reverseAux, List.cons_append, List.nil_append, Option.toList, Int.toNat, Int.reduceToNat, if_pos, if_neg, reduceIte, ↓reduceIte, Nat.reduceAdd, Nat.reduceEqDiff, Nat.reduceBEq, beq_self_eq_true, Bool.not_true, Bool.not_false, Bool.and_true, Bool.and_false, Bool.true_and, Bool.false_and, gI_sI, gI_sL, gI_sA, gI_sM, gL_sI, gL_sL, gL_sA, gL_sM, aI_sI, aI_sL, aI_sA, aI_sM, aL_sI, aL_sL, aL_sA, aL_sM, Bvariable_0, Bvariable_9, Bvariable_19, Bvariable_75, Bvariable_82, Bvariable_89, Bvariable_95, oi_1, oi_3, oi_60, oi_m2]; try dsimp only
        refine ⟨fun h15 => ?_, fun h15 => ?_⟩
        · refine hB _ _ _ _ _ (fun m16 hm16 => ?_)
          dsimp only [ugo, uwp, ust, uct, rfd, Bvariable, Nat.beq, lv_args, rlk, rs1, rs2, rdl, rky, rcd, rno, rsw, Value.category, List.filter, List.take, List.drop, List.reverse, List.reverseAux, List.cons_append, List.nil_append, Option.toList, Int.toNat, Int.reduceToNat, if_pos, if_neg, reduceIte, ↓reduceIte, Nat.reduceAdd, Nat.reduceEqDiff, Nat.reduceBEq, beq_self_eq_true, Bool.not_true, Bool.not_false, Bool.and_true, Bool.and_false, Bool.true_and, Bool.false_and, gI_sI, gI_sL, gI_sA, gI_sM, gL_sI, gL_sL, gL_sA, gL_sM, aI_sI, aI_sL, aI_sA, aI_sM, aL_sI, aL_sL, aL_sA, aL_sM, Bvariable_0, Bvariable_9, Bvariable_19, Bvariable_75, Bvariable_82, Bvariable_89, Bvariable_95, oi_1, oi_3, oi_60, oi_m2]; try dsimp only
          refine hB _ _ _ _ _ (fun m17 hm17 => ?_)
          dsimp only [ugo, uwp, ust, uct, rfd, Bvariable, Nat.beq, lv_args, rlk, rs1, rs2, rdl, rky, rcd, rno, rsw, Value.category, List.filter, List.take, List.drop, List.reverse, List.reverseAux, List.cons_append, List.nil_append, Option.toList, Int.toNat, Int.reduceToNat, if_pos, if_neg, reduceIte, ↓reduceIte, Nat.reduceAdd, Nat.reduceEqDiff, Nat.reduceBEq, beq_self_eq_true, Bool.not_true, Bool.not_false, Bool.and_true, Bool.and_false, Bool.true_and, Bool.false_and, gI_sI, gI_sL, gI_sA, gI_sM, gL_sI, gL_sL, gL_sA, gL_sM, aI_sI, aI_sL, aI_sA, aI_sM, aL_sI, aL_sL, aL_sA, aL_sM, Bvariable_0, Bvariable_9, Bvariable_19, Bvariable_75, Bvariable_82, Bvariable_89, Bvariable_95, oi_1, oi_3, oi_60, oi_m2]; try dsimp only
          intro p18
          intro p19
          intro p20
          refine ⟨trivial, fun w21 τ21 hq21 => ?_⟩
          have hq21 := hq21 _ s n ⟨⟨hS.kp rfl rfl rfl rfl rfl rfl, hd, KR.rf⟩, by omega, by omega⟩
          rcases hq21 with ⟨rfl, hF21⟩ | ⟨rfl, hX21, hz21, hS21⟩
          · dsimp only [Option.toList, List.cons_append, List.nil_append, Nat.beq, gI_sI, gI_sL, gI_sA, gI_sM, gL_sI, gL_sL, gL_sA, gL_sM, aI_sI, aI_sL, aI_sA, aI_sM, aL_sI, aL_sL, aL_sA, aL_sM]
            unfold Qv_variable
            try dsimp only
            have h60 : gI σ 42 < 60 := by have := hv.2.2; lia
            have hl : ¬ 60 ≤ (zVs s).length := by
              rw [hv.1, vlR_l]
              have := nT_lt hv.2.1 h60
              have q : nT (60 : Int32) = 60 := rfl
              omega
            refine Or.inl ⟨rfl, ?_⟩
            rw [dcl_y hS.1.1 hc hl]
            refine FlR.q hF21 ?_
            unfold zFt zPl
            rw [acc_v.1]
            exact ⟨rfl, rfl⟩
          · dsimp only [Option.toList, List.cons_append, List.nil_append, Nat.beq, gI_sI, gI_sL, gI_sA, gI_sM, gL_sI, gL_sL, gL_sA, gL_sM, aI_sI, aI_sL, aI_sA, aI_sM, aL_sI, aL_sL, aL_sA, aL_sM]
            unfold Qv_variable
            try dsimp only
            have h60 : gI σ 42 < 60 := by have := hv.2.2; lia
            have hl : ¬ 60 ≤ (zVs s).length := by
              rw [hv.1, vlR_l]
              have := nT_lt hv.2.1 h60
              have q : nT (60 : Int32) = 60 := rfl
              omega
            refine Or.inr ⟨rfl, hX21.1, hz21, hl, fun j h1 h2 => (hS21.1 j h1).trans (by show gI (sI σ 42 _) j = _; rw [gI_sI, nb_ne h2]), (hS21.1 42 (by decide)).trans rfl, ⟨hv.2.1, h60⟩, ⟨(hS21.2 43).trans rfl, (hS21.2 44).trans rfl, (hS21.2 45).trans rfl, (hS21.2 46).trans ?_⟩, fun j hj => (hS21.2 j).trans ((aI_ne (by omega)).trans ((aI_ne (by omega)).trans ((aI_ne (by omega)).trans ((aI_ne (by omega)).trans ((aI_ne (by omega)).trans ((aI_ne (by omega)).trans rfl))))))⟩
            rw [if_neg (fun q => q.elim (fun q => absurd q (by lia)) (fun q => absurd q (by lia)))]
            rfl
        · refine hB _ _ _ _ _ (fun m22 hm22 => ?_)
          dsimp only [ugo, uwp, ust, uct, rfd, Bvariable, Nat.beq, lv_args, rlk, rs1, rs2, rdl, rky, rcd, rno, rsw, Value.category, List.filter, List.take, List.drop, List.reverse, List.reverseAux, List.cons_append, List.nil_append, Option.toList, Int.toNat, Int.reduceToNat, if_pos, if_neg, reduceIte, ↓reduceIte, Nat.reduceAdd, Nat.reduceEqDiff, Nat.reduceBEq, beq_self_eq_true, Bool.not_true, Bool.not_false, Bool.and_true, Bool.and_false, Bool.true_and, Bool.false_and, gI_sI, gI_sL, gI_sA, gI_sM, gL_sI, gL_sL, gL_sA, gL_sM, aI_sI, aI_sL, aI_sA, aI_sM, aL_sI, aL_sL, aL_sA, aL_sM, Bvariable_0, Bvariable_9, Bvariable_19, Bvariable_75, Bvariable_82, Bvariable_89, Bvariable_95, oi_1, oi_3, oi_60, oi_m2]; try dsimp only
          refine hB _ _ _ _ _ (fun m23 hm23 => ?_)
          dsimp only [ugo, uwp, ust, uct, rfd, Bvariable, Nat.beq, lv_args, rlk, rs1, rs2, rdl, rky, rcd, rno, rsw, Value.category, List.filter, List.take, List.drop, List.reverse, List.reverseAux, List.cons_append, List.nil_append, Option.toList, Int.toNat, Int.reduceToNat, if_pos, if_neg, reduceIte, ↓reduceIte, Nat.reduceAdd, Nat.reduceEqDiff, Nat.reduceBEq, beq_self_eq_true, Bool.not_true, Bool.not_false, Bool.and_true, Bool.and_false, Bool.true_and, Bool.false_and, gI_sI, gI_sL, gI_sA, gI_sM, gL_sI, gL_sL, gL_sA, gL_sM, aI_sI, aI_sL, aI_sA, aI_sM, aL_sI, aL_sL, aL_sA, aL_sM, Bvariable_0, Bvariable_9, Bvariable_19, Bvariable_75, Bvariable_82, Bvariable_89, Bvariable_95, oi_1, oi_3, oi_60, oi_m2]; try dsimp only
          intro p24
          intro p25
          intro p26
          refine ⟨trivial, fun w27 τ27 hq27 => ?_⟩
          have hq27 := hq27 _ s n ⟨⟨hS.kp rfl rfl rfl rfl rfl rfl, hd, KR.rf⟩, by omega, by omega⟩
          rcases hq27 with ⟨rfl, hF27⟩ | ⟨rfl, hX27, hz27, hS27⟩
          · dsimp only [Option.toList, List.cons_append, List.nil_append, Nat.beq, gI_sI, gI_sL, gI_sA, gI_sM, gL_sI, gL_sL, gL_sA, gL_sM, aI_sI, aI_sL, aI_sA, aI_sM, aL_sI, aL_sL, aL_sA, aL_sM]
            unfold Qv_variable
            try dsimp only
            have h60 : gI σ 42 < 60 := by have := hv.2.2; lia
            have hl : ¬ 60 ≤ (zVs s).length := by
              rw [hv.1, vlR_l]
              have := nT_lt hv.2.1 h60
              have q : nT (60 : Int32) = 60 := rfl
              omega
            refine Or.inl ⟨rfl, ?_⟩
            rw [dcl_y hS.1.1 hc hl]
            refine FlR.q hF27 ?_
            unfold zFt zPl
            rw [acc_v.1]
            exact ⟨rfl, rfl⟩
          · dsimp only [Option.toList, List.cons_append, List.nil_append, Nat.beq, gI_sI, gI_sL, gI_sA, gI_sM, gL_sI, gL_sL, gL_sA, gL_sM, aI_sI, aI_sL, aI_sA, aI_sM, aL_sI, aL_sL, aL_sA, aL_sM]
            unfold Qv_variable
            try dsimp only
            have h60 : gI σ 42 < 60 := by have := hv.2.2; lia
            have hl : ¬ 60 ≤ (zVs s).length := by
              rw [hv.1, vlR_l]
              have := nT_lt hv.2.1 h60
              have q : nT (60 : Int32) = 60 := rfl
              omega
            refine Or.inr ⟨rfl, hX27.1, hz27, hl, fun j h1 h2 => (hS27.1 j h1).trans (by show gI (sI σ 42 _) j = _; rw [gI_sI, nb_ne h2]), (hS27.1 42 (by decide)).trans rfl, ⟨hv.2.1, h60⟩, ⟨(hS27.2 43).trans rfl, (hS27.2 44).trans rfl, (hS27.2 45).trans rfl, (hS27.2 46).trans ?_⟩, fun j hj => (hS27.2 j).trans ((aI_ne (by omega)).trans ((aI_ne (by omega)).trans ((aI_ne (by omega)).trans ((aI_ne (by omega)).trans ((aI_ne (by omega)).trans ((aI_ne (by omega)).trans rfl))))))⟩
            rw [if_pos (Or.inr (by lia))]
            rfl
    · refine hB _ _ _ _ _ (fun m28 hm28 => ?_)
      dsimp only [ugo, uwp, ust, uct, rfd, Bvariable, Nat.beq, lv_args, rlk, rs1, rs2, rdl, rky, rcd, rno, rsw, Value.category, List.filter, List.take, List.drop, List.reverse, List.reverseAux, List.cons_append, List.nil_append, Option.toList, Int.toNat, Int.reduceToNat, if_pos, if_neg, reduceIte, ↓reduceIte, Nat.reduceAdd, Nat.reduceEqDiff, Nat.reduceBEq, beq_self_eq_true, Bool.not_true, Bool.not_false, Bool.and_true, Bool.and_false, Bool.true_and, Bool.false_and, gI_sI, gI_sL, gI_sA, gI_sM, gL_sI, gL_sL, gL_sA, gL_sM, aI_sI, aI_sL, aI_sA, aI_sM, aL_sI, aL_sL, aL_sA, aL_sM, Bvariable_0, Bvariable_9, Bvariable_19, Bvariable_75, Bvariable_82, Bvariable_89, Bvariable_95, oi_1, oi_3, oi_60, oi_m2]; try dsimp only
      refine ⟨trivial, fun w29 τ29 hq29 => ?_⟩
      obtain ⟨rfl, hf29⟩ := hq29 trivial
      dsimp only [Option.toList, List.cons_append, List.nil_append, Nat.beq, gI_sI, gI_sL, gI_sA, gI_sM, gL_sI, gL_sL, gL_sA, gL_sM, aI_sI, aI_sL, aI_sA, aI_sM, aL_sI, aL_sL, aL_sA, aL_sM]
      unfold Qv_variable
      try dsimp only
      have e := hf29 hS.1.2
      subst e
      refine Or.inl ⟨rfl, ?_⟩
      rw [dcl_3 hc (by rw [hv.1, vlR_l, show gI σ 42 = 60 by lia]; decide)]
      exact FlR.rai hS (by decide) (by show (3 : Int32).toInt = _; rw [if_neg (by omega)]; rfl) rfl
  next => exact hP.elim
theorem w_variable : UMet 40 (fun _ _ => True) Qw_variable := fun A1 σ _ w τ h s n hP => v_variable s n A1 σ hP w τ h
def Pv_declaration (s : SpC) (n : Nat) : UP1 := fun A1 σ => match A1 with
  | [.int k] => SR σ s n ∧ FgR σ 0 ∧ frR σ ≠ []
  | _ => False
def Qv_declaration (s : SpC) (n : Nat) : UQ1 := fun A1 σ w τ => match A1 with
  | [.int k] => (w = some (.int 0) ∧ FlR τ (varY n s)) ∨ (w = some (.int 1) ∧ SR τ (varY n s) n ∧ FgR τ 0 ∧ frR τ = frR σ ∧ gI τ 49 = gI σ 49)
  | _ => False
def Qw_declaration : UQ1 := fun A1 σ w τ => ∀ (s : SpC) (n : Nat), Pv_declaration s n A1 σ → Qv_declaration s n A1 σ w τ
set_option maxRecDepth 100000 in
set_option maxHeartbeats 4000000 in
theorem v_declaration (s : SpC) (n : Nat) : UMet 48 (Pv_declaration s n) (Qv_declaration s n) := by
  refine UMet.by Bdeclaration [(13, (fun _ _ => True), Qw_cant), (20, Pu_emit, Qu_emit), (27, (fun _ _ => True), Qw_expression), (14, (fun _ _ => True), Qw_isSign), (23, (fun _ _ => True), Qw_isType), (15, (fun _ _ => True), Qw_isWord), (17, (fun _ _ => True), Qw_take), (40, (fun _ _ => True), Qw_variable)] rfl (ucc w_cant (ucc u_emit (ucc w_expression (ucc w_isSign (ucc w_isType (ucc w_isWord (ucc w_take (ucc w_variable uc0)))))))) ?_
  intro A1 σ hP K hB hW
  unfold Pv_declaration at hP
  split at hP
  next k =>
    obtain ⟨hR, hg, hne⟩ := hP
    have hnn := hR.2.1
    intro n0_
    refine hB _ _ _ _ _ (fun m1 hm1 => ?_)
    dsimp only [ugo, uwp, ust, uct, rfd, Bdeclaration, Nat.beq, lv_args, rlk, rs1, rs2, rdl, rky, rcd, rno, rsw, Value.category, List.filter, List.take, List.drop, List.reverse, List.reverseAux, List.cons_append, List.nil_append, Option.toList, Int.toNat, Int.reduceToNat, if_pos, if_neg, reduceIte, ↓reduceIte, Nat.reduceAdd, Nat.reduceEqDiff, Nat.reduceBEq, beq_self_eq_true, Bool.not_true, Bool.not_false, Bool.and_true, Bool.and_false, Bool.true_and, Bool.false_and, gI_sI, gI_sL, gI_sA, gI_sM, gL_sI, gL_sL, gL_sA, gL_sM, aI_sI, aI_sL, aI_sA, aI_sM, aL_sI, aL_sL, aL_sA, aL_sM, Bdeclaration_0, Bdeclaration_11, Bdeclaration_18, Bdeclaration_20, Bdeclaration_31, Bdeclaration_36, Bdeclaration_53, Bdeclaration_55, Bdeclaration_68, Bdeclaration_73, Bdeclaration_95, Bdeclaration_97, Bdeclaration_110, Bdeclaration_114, Bdeclaration_119, Bdeclaration_124, Bdeclaration_147, Bdeclaration_154, Bdeclaration_156, Bdeclaration_179, Bdeclaration_183, Bdeclaration_184, oi_0, oi_1, oi_2, oi_21, oi_22, oi_61, Pu_emit]; try dsimp only
    refine ⟨trivial, fun w2 τ2 hq2 => ?_⟩
    obtain ⟨rfl, b2, rfl, hb2⟩ := hq2 trivial
    have he2 := (XrR.s (SR.x (e_ := 0) (by repeat (first | exact hR | refine SR.i ?_ rfl | refine SR.a ?_ rfl)))).wd (x := 21) (by decide)
    rcases hb2 with ⟨rfl, hk2⟩ | ⟨rfl, hk2⟩
    · dsimp only [Option.toList, List.cons_append, List.nil_append, Nat.beq, gI_sI, gI_sL, gI_sA, gI_sM, gL_sI, gL_sL, gL_sA, gL_sM, aI_sI, aI_sL, aI_sA, aI_sM, aL_sI, aL_sL, aL_sA, aL_sM]
      have hc2 : codY s = 71 := he2.mp hk2
      refine ⟨fun h3 => absurd h3 (by decide), fun h3 => ?_⟩
      clear h3
      refine hB _ _ _ _ _ (fun m4 hm4 => ?_)
      dsimp only [ugo, uwp, ust, uct, rfd, Bdeclaration, Nat.beq, lv_args, rlk, rs1, rs2, rdl, rky, rcd, rno, rsw, Value.category, List.filter, List.take, List.drop, List.reverse, List.reverseAux, List.cons_append, List.nil_append, Option.toList, Int.toNat, Int.reduceToNat, if_pos, if_neg, reduceIte, ↓reduceIte, Nat.reduceAdd, Nat.reduceEqDiff, Nat.reduceBEq, beq_self_eq_true, Bool.not_true, Bool.not_false, Bool.and_true, Bool.and_false, Bool.true_and, Bool.false_and, gI_sI, gI_sL, gI_sA, gI_sM, gL_sI, gL_sL, gL_sA, gL_sM, aI_sI, aI_sL, aI_sA, aI_sM, aL_sI, aL_sL, aL_sA, aL_sM, Bdeclaration_0, Bdeclaration_11, Bdeclaration_18, Bdeclaration_20, Bdeclaration_31, Bdeclaration_36, Bdeclaration_53, Bdeclaration_55, Bdeclaration_68, Bdeclaration_73, Bdeclaration_95, Bdeclaration_97, Bdeclaration_110, Bdeclaration_114, Bdeclaration_119, Bdeclaration_124, Bdeclaration_147, Bdeclaration_154, Bdeclaration_156, Bdeclaration_179, Bdeclaration_183, Bdeclaration_184, oi_0, oi_1, oi_2, oi_21, oi_22, oi_61, Pu_emit]; try dsimp only
      refine ⟨trivial, fun w5 τ5 hq5 => ?_⟩
      have hq5 := hq5 _ s n ⟨(SR.x (e_ := 0) (by repeat (first | exact hR | refine SR.i ?_ rfl | refine SR.a ?_ rfl))), by omega, by omega⟩
      rcases hq5 with ⟨rfl, hF5⟩ | ⟨rfl, hX5, hz5, hS5⟩
      · dsimp only [Option.toList, List.cons_append, List.nil_append, Nat.beq, gI_sI, gI_sL, gI_sA, gI_sM, gL_sI, gL_sL, gL_sA, gL_sM, aI_sI, aI_sL, aI_sA, aI_sM, aL_sI, aL_sL, aL_sA, aL_sM]
        refine ⟨fun h6 => absurd h6 (by decide), fun h6 => ?_⟩
        clear h6
        refine hB _ _ _ _ _ (fun m7 hm7 => ?_)
        dsimp only [ugo, uwp, ust, uct, rfd, Bdeclaration, Nat.beq, lv_args, rlk, rs1, rs2, rdl, rky, rcd, rno, rsw, Value.category, List.filter, List.take, List.drop, List.reverse, List.reverseAux, List.cons_append, List.nil_append, Option.toList, Int.toNat, Int.reduceToNat, if_pos, if_neg, reduceIte, ↓reduceIte, Nat.reduceAdd, Nat.reduceEqDiff, Nat.reduceBEq, beq_self_eq_true, Bool.not_true, Bool.not_false, Bool.and_true, Bool.and_false, Bool.true_and, Bool.false_and, gI_sI, gI_sL, gI_sA, gI_sM, gL_sI, gL_sL, gL_sA, gL_sM, aI_sI, aI_sL, aI_sA, aI_sM, aL_sI, aL_sL, aL_sA, aL_sM, Bdeclaration_0, Bdeclaration_11, Bdeclaration_18, Bdeclaration_20, Bdeclaration_31, Bdeclaration_36, Bdeclaration_53, Bdeclaration_55, Bdeclaration_68, Bdeclaration_73, Bdeclaration_95, Bdeclaration_97, Bdeclaration_110, Bdeclaration_114, Bdeclaration_119, Bdeclaration_124, Bdeclaration_147, Bdeclaration_154, Bdeclaration_156, Bdeclaration_179, Bdeclaration_183, Bdeclaration_184, oi_0, oi_1, oi_2, oi_21, oi_22, oi_61, Pu_emit]; try dsimp only
        unfold Qv_declaration
        try dsimp only
        refine Or.inl ⟨rfl, FlR.g hF5 ?_⟩
        rw [var_1 hc2]
        exact (by repeat (first | with_reducible exact GpY.rf | with_reducible refine GpY.tr ?_ (gd_fo _) | with_reducible refine GpY.tr ?_ (gd_ef _) | with_reducible refine GpY.tr ?_ (gd_cf _) | with_reducible refine GpY.tr ?_ (gd_wt _) | with_reducible refine GpY.tr ?_ (gd_xp _) | with_reducible refine GpY.tr ?_ (gd_acc _) | with_reducible refine GpY.tr ?_ (gd_rai _) | with_reducible refine GpY.tr ?_ (gd_e _) | with_reducible refine GpY.tr ?_ (gd_o _) | with_reducible refine GpY.tr ?_ (gd_c _) | with_reducible refine GpY.tr ?_ (gd_op _) | with_reducible refine GpY.tr ?_ (gd_clp gd_e _ _) | with_reducible refine GpY.tr ?_ (gd_tl _) | with_reducible refine GpY.tr ?_ (gd_sf _ _ _) | with_reducible refine GpY.tr ?_ (gd_cl _) | with_reducible refine GpY.tr ?_ (gd_pc _) | with_reducible refine GpY.tr ?_ (gd_st _) | with_reducible refine GpY.tr ?_ (gd_rw _) | with_reducible refine GpY.tr ?_ (gd_typ _) | with_reducible refine GpY.tr ?_ (gd_dcl _) | with_reducible refine GpY.tr ?_ (gd_va2 _) | with_reducible refine GpY.tr ?_ (gd_cnd _) | with_reducible refine GpY.tr ?_ (gd_tr1 _) | with_reducible refine GpY.tr ?_ (gd_tr2 (fun _ => gd_rw) _) | with_reducible refine GpY.tr ?_ (gd_tr3 (fun _ => gd_rw) _) | with_reducible refine GpY.tr ?_ (gd_fo1 _) | with_reducible refine GpY.tr ?_ (gd_fo2 _) | with_reducible refine GpY.tr ?_ (gd_fo3 _) | with_reducible refine GpY.tr ?_ (gd_fex _) | with_reducible refine GpY.tr ?_ (pg_var.1) | with_reducible refine GpY.tr ?_ (pg_cas.1) | exact GpY.rf))
      · dsimp only [Option.toList, List.cons_append, List.nil_append, Nat.beq, gI_sI, gI_sL, gI_sA, gI_sM, gL_sI, gL_sL, gL_sA, gL_sM, aI_sI, aI_sL, aI_sA, aI_sM, aL_sI, aL_sL, aL_sA, aL_sM]
        have hR5 := SR.kr (e_ := 0) (by repeat (first | exact hR | refine SR.i ?_ rfl | refine SR.a ?_ rfl)) hX5 acc2
        have hg5 := FgR.kr (e_ := 0) (s := s) (n := n) (by repeat (first | exact hg | refine FgR.i ?_ rfl | refine FgR.a ?_ rfl)) (by repeat (first | exact hR | refine SR.i ?_ rfl | refine SR.a ?_ rfl)) hX5
        have hf5 := frR_kr hX5
        have q9_5 : gI τ5 49 = gI σ 49 := (hX5.2.2.1.1 49 rfl).trans rfl
        refine ⟨fun h8 => ?_, fun h8 => absurd h8 (by decide)⟩
        clear h8
        refine hB _ _ _ _ _ (fun m9 hm9 => ?_)
        dsimp only [ugo, uwp, ust, uct, rfd, Bdeclaration, Nat.beq, lv_args, rlk, rs1, rs2, rdl, rky, rcd, rno, rsw, Value.category, List.filter, List.take, List.drop, List.reverse, List.reverseAux, List.cons_append, List.nil_append, Option.toList, Int.toNat, Int.reduceToNat, if_pos, if_neg, reduceIte, ↓reduceIte, Nat.reduceAdd, Nat.reduceEqDiff, Nat.reduceBEq, beq_self_eq_true, Bool.not_true, Bool.not_false, Bool.and_true, Bool.and_false, Bool.true_and, Bool.false_and, gI_sI, gI_sL, gI_sA, gI_sM, gL_sI, gL_sL, gL_sA, gL_sM, aI_sI, aI_sL, aI_sA, aI_sM, aL_sI, aL_sL, aL_sA, aL_sM, Bdeclaration_0, Bdeclaration_11, Bdeclaration_18, Bdeclaration_20, Bdeclaration_31, Bdeclaration_36, Bdeclaration_53, Bdeclaration_55, Bdeclaration_68, Bdeclaration_73, Bdeclaration_95, Bdeclaration_97, Bdeclaration_110, Bdeclaration_114, Bdeclaration_119, Bdeclaration_124, Bdeclaration_147, Bdeclaration_154, Bdeclaration_156, Bdeclaration_179, Bdeclaration_183, Bdeclaration_184, oi_0, oi_1, oi_2, oi_21, oi_22, oi_61, Pu_emit]; try dsimp only
        refine ⟨trivial, fun w10 τ10 hq10 => ?_⟩
        obtain ⟨rfl, b10, rfl, hb10⟩ := hq10 trivial
        have he10 := (XrR.s (SR.x (e_ := 0) (by repeat (first | exact hR5 | refine SR.i ?_ rfl | refine SR.a ?_ rfl)))).ty
        rcases hb10 with ⟨rfl, hk10⟩ | ⟨rfl, hk10⟩
        · dsimp only [Option.toList, List.cons_append, List.nil_append, Nat.beq, gI_sI, gI_sL, gI_sA, gI_sM, gL_sI, gL_sL, gL_sA, gL_sM, aI_sI, aI_sL, aI_sA, aI_sM, aL_sI, aL_sL, aL_sA, aL_sM]
          have hc10 : 50 ≤ codY (accY s) ∧ codY (accY s) ≤ 54 := he10.mp hk10
          refine ⟨fun h11 => ?_, fun h11 => absurd h11 (by decide)⟩
          clear h11
          refine hB _ _ _ _ _ (fun m12 hm12 => ?_)
          dsimp only [ugo, uwp, ust, uct, rfd, Bdeclaration, Nat.beq, lv_args, rlk, rs1, rs2, rdl, rky, rcd, rno, rsw, Value.category, List.filter, List.take, List.drop, List.reverse, List.reverseAux, List.cons_append, List.nil_append, Option.toList, Int.toNat, Int.reduceToNat, if_pos, if_neg, reduceIte, ↓reduceIte, Nat.reduceAdd, Nat.reduceEqDiff, Nat.reduceBEq, beq_self_eq_true, Bool.not_true, Bool.not_false, Bool.and_true, Bool.and_false, Bool.true_and, Bool.false_and, gI_sI, gI_sL, gI_sA, gI_sM, gL_sI, gL_sL, gL_sA, gL_sM, aI_sI, aI_sL, aI_sA, aI_sM, aL_sI, aL_sL, aL_sA, aL_sM, Bdeclaration_0, Bdeclaration_11, Bdeclaration_18, Bdeclaration_20, Bdeclaration_31, Bdeclaration_36, Bdeclaration_53, Bdeclaration_55, Bdeclaration_68, Bdeclaration_73, Bdeclaration_95, Bdeclaration_97, Bdeclaration_110, Bdeclaration_114, Bdeclaration_119, Bdeclaration_124, Bdeclaration_147, Bdeclaration_154, Bdeclaration_156, Bdeclaration_179, Bdeclaration_183, Bdeclaration_184, oi_0, oi_1, oi_2, oi_21, oi_22, oi_61, Pu_emit]; try dsimp only
          have hty : 50 ≤ codY (accY s) ∧ codY (accY s) ≤ 54 := hc10
          have hty2 := (SR.sh hR5).ty2 (show 50 ≤ codY (accY s) ∧ codY (accY s) ≤ 55 by omega)
          have htv := (tyv_y hty).trans hty2.symm
          intro p13
          refine ⟨trivial, fun w14 τ14 hq14 => ?_⟩
          have hq14 := hq14 _ (accY s) n ⟨(SR.x (e_ := 0) (by repeat (first | exact hR5 | refine SR.i ?_ rfl | refine SR.a ?_ rfl))), by omega, by omega⟩
          rcases hq14 with ⟨rfl, hF14⟩ | ⟨rfl, hX14, hz14, hS14⟩
          · dsimp only [Option.toList, List.cons_append, List.nil_append, Nat.beq, gI_sI, gI_sL, gI_sA, gI_sM, gL_sI, gL_sL, gL_sA, gL_sM, aI_sI, aI_sL, aI_sA, aI_sM, aL_sI, aL_sL, aL_sA, aL_sM]
            refine ⟨fun h15 => absurd h15 (by decide), fun h15 => ?_⟩
            clear h15
            refine hB _ _ _ _ _ (fun m16 hm16 => ?_)
            dsimp only [ugo, uwp, ust, uct, rfd, Bdeclaration, Nat.beq, lv_args, rlk, rs1, rs2, rdl, rky, rcd, rno, rsw, Value.category, List.filter, List.take, List.drop, List.reverse, List.reverseAux, List.cons_append, List.nil_append, Option.toList, Int.toNat, Int.reduceToNat, if_pos, if_neg, reduceIte, ↓reduceIte, Nat.reduceAdd, Nat.reduceEqDiff, Nat.reduceBEq, beq_self_eq_true, Bool.not_true, Bool.not_false, Bool.and_true, Bool.and_false, Bool.true_and, Bool.false_and, gI_sI, gI_sL, gI_sA, gI_sM, gL_sI, gL_sL, gL_sA, gL_sM, aI_sI, aI_sL, aI_sA, aI_sM, aL_sI, aL_sL, aL_sA, aL_sM, Bdeclaration_0, Bdeclaration_11, Bdeclaration_18, Bdeclaration_20, Bdeclaration_31, Bdeclaration_36, Bdeclaration_53, Bdeclaration_55, Bdeclaration_68, Bdeclaration_73, Bdeclaration_95, Bdeclaration_97, Bdeclaration_110, Bdeclaration_114, Bdeclaration_119, Bdeclaration_124, Bdeclaration_147, Bdeclaration_154, Bdeclaration_156, Bdeclaration_179, Bdeclaration_183, Bdeclaration_184, oi_0, oi_1, oi_2, oi_21, oi_22, oi_61, Pu_emit]; try dsimp only
            unfold Qv_declaration
            try dsimp only
            refine Or.inl ⟨rfl, FlR.g hF14 ?_⟩
            rw [var_1 hc2, typ_y hty]
            exact (by repeat (first | with_reducible exact GpY.rf | with_reducible refine GpY.tr ?_ (gd_fo _) | with_reducible refine GpY.tr ?_ (gd_ef _) | with_reducible refine GpY.tr ?_ (gd_cf _) | with_reducible refine GpY.tr ?_ (gd_wt _) | with_reducible refine GpY.tr ?_ (gd_xp _) | with_reducible refine GpY.tr ?_ (gd_acc _) | with_reducible refine GpY.tr ?_ (gd_rai _) | with_reducible refine GpY.tr ?_ (gd_e _) | with_reducible refine GpY.tr ?_ (gd_o _) | with_reducible refine GpY.tr ?_ (gd_c _) | with_reducible refine GpY.tr ?_ (gd_op _) | with_reducible refine GpY.tr ?_ (gd_clp gd_e _ _) | with_reducible refine GpY.tr ?_ (gd_tl _) | with_reducible refine GpY.tr ?_ (gd_sf _ _ _) | with_reducible refine GpY.tr ?_ (gd_cl _) | with_reducible refine GpY.tr ?_ (gd_pc _) | with_reducible refine GpY.tr ?_ (gd_st _) | with_reducible refine GpY.tr ?_ (gd_rw _) | with_reducible refine GpY.tr ?_ (gd_typ _) | with_reducible refine GpY.tr ?_ (gd_dcl _) | with_reducible refine GpY.tr ?_ (gd_va2 _) | with_reducible refine GpY.tr ?_ (gd_cnd _) | with_reducible refine GpY.tr ?_ (gd_tr1 _) | with_reducible refine GpY.tr ?_ (gd_tr2 (fun _ => gd_rw) _) | with_reducible refine GpY.tr ?_ (gd_tr3 (fun _ => gd_rw) _) | with_reducible refine GpY.tr ?_ (gd_fo1 _) | with_reducible refine GpY.tr ?_ (gd_fo2 _) | with_reducible refine GpY.tr ?_ (gd_fo3 _) | with_reducible refine GpY.tr ?_ (gd_fex _) | with_reducible refine GpY.tr ?_ (pg_var.1) | with_reducible refine GpY.tr ?_ (pg_cas.1) | exact GpY.rf))
          · dsimp only [Option.toList, List.cons_append, List.nil_append, Nat.beq, gI_sI, gI_sL, gI_sA, gI_sM, gL_sI, gL_sL, gL_sA, gL_sM, aI_sI, aI_sL, aI_sA, aI_sM, aL_sI, aL_sL, aL_sA, aL_sM]
            have hR14 := SR.kr (e_ := 0) (by repeat (first | exact hR5 | refine SR.i ?_ rfl | refine SR.a ?_ rfl)) hX14 acc2
            have hg14 := FgR.kr (e_ := 0) (s := (accY s)) (n := n) (by repeat (first | exact hg5 | refine FgR.i ?_ rfl | refine FgR.a ?_ rfl)) (by repeat (first | exact hR5 | refine SR.i ?_ rfl | refine SR.a ?_ rfl)) hX14
            have hf14 := frR_kr hX14
            have q9_14 : gI τ14 49 = gI σ 49 := (hX14.2.2.1.1 49 rfl).trans q9_5
            refine ⟨fun h17 => ?_, fun h17 => absurd h17 (by decide)⟩
            clear h17
            refine hB _ _ _ _ _ (fun m18 hm18 => ?_)
            dsimp only [ugo, uwp, ust, uct, rfd, Bdeclaration, Nat.beq, lv_args, rlk, rs1, rs2, rdl, rky, rcd, rno, rsw, Value.category, List.filter, List.take, List.drop, List.reverse, List.reverseAux, List.cons_append, List.nil_append, Option.toList, Int.toNat, Int.reduceToNat, if_pos, if_neg, reduceIte, ↓reduceIte, Nat.reduceAdd, Nat.reduceEqDiff, Nat.reduceBEq, beq_self_eq_true, Bool.not_true, Bool.not_false, Bool.and_true, Bool.and_false, Bool.true_and, Bool.false_and, gI_sI, gI_sL, gI_sA, gI_sM, gL_sI, gL_sL, gL_sA, gL_sM, aI_sI, aI_sL, aI_sA, aI_sM, aL_sI, aL_sL, aL_sA, aL_sM, Bdeclaration_0, Bdeclaration_11, Bdeclaration_18, Bdeclaration_20, Bdeclaration_31, Bdeclaration_36, Bdeclaration_53, Bdeclaration_55, Bdeclaration_68, Bdeclaration_73, Bdeclaration_95, Bdeclaration_97, Bdeclaration_110, Bdeclaration_114, Bdeclaration_119, Bdeclaration_124, Bdeclaration_147, Bdeclaration_154, Bdeclaration_156, Bdeclaration_179, Bdeclaration_183, Bdeclaration_184, oi_0, oi_1, oi_2, oi_21, oi_22, oi_61, Pu_emit]; try dsimp only
            intro p19
            refine ⟨fun h20 => ?_, fun h20 => ?_⟩
            · refine hB _ _ _ _ _ (fun m21 hm21 => ?_)
              dsimp only [ugo, uwp, ust, uct, rfd, Bdeclaration, Nat.beq, lv_args, rlk, rs1, rs2, rdl, rky, rcd, rno, rsw, Value.category, List.filter, List.take, List.drop, List.reverse, List.reverseAux, List.cons_append, List.nil_append, Option.toList, Int.toNat, Int.reduceToNat, if_pos, if_neg, reduceIte, ↓reduceIte, Nat.reduceAdd, Nat.reduceEqDiff, Nat.reduceBEq, beq_self_eq_true, Bool.not_true, Bool.not_false, Bool.and_true, Bool.and_false, Bool.true_and, Bool.false_and, gI_sI, gI_sL, gI_sA, gI_sM, gL_sI, gL_sL, gL_sA, gL_sM, aI_sI, aI_sL, aI_sA, aI_sM, aL_sI, aL_sL, aL_sA, aL_sM, Bdeclaration_0, Bdeclaration_11, Bdeclaration_18, Bdeclaration_20, Bdeclaration_31, Bdeclaration_36, Bdeclaration_53, Bdeclaration_55, Bdeclaration_68, Bdeclaration_73, Bdeclaration_95, Bdeclaration_97, Bdeclaration_110, Bdeclaration_114, Bdeclaration_119, Bdeclaration_124, Bdeclaration_147, Bdeclaration_154, Bdeclaration_156, Bdeclaration_179, Bdeclaration_183, Bdeclaration_184, oi_0, oi_1, oi_2, oi_21, oi_22, oi_61, Pu_emit]; try dsimp only
              have hcn := (SR.sh hR14).ki.2.2.1.mp (by exact h20)
              have hR_ := hR14
              refine ⟨trivial, fun w22 τ22 hq22 => ?_⟩
              have hV22 := hq22 (accY (accY s)) n ⟨SR.sh (e := 0) (n := n) (by repeat (first | exact hR14 | refine SR.i ?_ rfl | refine SR.a ?_ rfl)), SR.dp (e := 0) (s := (accY (accY s))) (by repeat (first | exact hR14 | refine SR.i ?_ rfl | refine SR.a ?_ rfl)), by omega, SR.vv (e := 0) (n := n) (by repeat (first | exact hR14 | refine SR.i ?_ rfl | refine SR.a ?_ rfl))⟩
              rcases hV22 with ⟨rfl, hF22⟩ | ⟨rfl, hSh22, hz22, hl22, hva22⟩
              · dsimp only [Option.toList, List.cons_append, List.nil_append, Nat.beq, gI_sI, gI_sL, gI_sA, gI_sM, gL_sI, gL_sL, gL_sA, gL_sM, aI_sI, aI_sL, aI_sA, aI_sM, aL_sI, aL_sL, aL_sA, aL_sM]
                have hF22 : FlR τ22 (dclY (aI τ5 6 (gI τ5 14).toNatClampNeg).toInt 1 1 (accY (accY s))) := hF22
                refine ⟨fun h23 => absurd h23 (by decide), fun h23 => ?_⟩
                clear h23
                refine hB _ _ _ _ _ (fun m24 hm24 => ?_)
                dsimp only [ugo, uwp, ust, uct, rfd, Bdeclaration, Nat.beq, lv_args, rlk, rs1, rs2, rdl, rky, rcd, rno, rsw, Value.category, List.filter, List.take, List.drop, List.reverse, List.reverseAux, List.cons_append, List.nil_append, Option.toList, Int.toNat, Int.reduceToNat, if_pos, if_neg, reduceIte, ↓reduceIte, Nat.reduceAdd, Nat.reduceEqDiff, Nat.reduceBEq, beq_self_eq_true, Bool.not_true, Bool.not_false, Bool.and_true, Bool.and_false, Bool.true_and, Bool.false_and, gI_sI, gI_sL, gI_sA, gI_sM, gL_sI, gL_sL, gL_sA, gL_sM, aI_sI, aI_sL, aI_sA, aI_sM, aL_sI, aL_sL, aL_sA, aL_sM, Bdeclaration_0, Bdeclaration_11, Bdeclaration_18, Bdeclaration_20, Bdeclaration_31, Bdeclaration_36, Bdeclaration_53, Bdeclaration_55, Bdeclaration_68, Bdeclaration_73, Bdeclaration_95, Bdeclaration_97, Bdeclaration_110, Bdeclaration_114, Bdeclaration_119, Bdeclaration_124, Bdeclaration_147, Bdeclaration_154, Bdeclaration_156, Bdeclaration_179, Bdeclaration_183, Bdeclaration_184, oi_0, oi_1, oi_2, oi_21, oi_22, oi_61, Pu_emit]; try dsimp only
                unfold Qv_declaration
                try dsimp only
                refine Or.inl ⟨rfl, FlR.g hF22 ?_⟩
                rw [var_1 hc2, typ_y hty, htv]
                exact (by repeat (first | with_reducible exact GpY.rf | with_reducible refine GpY.tr ?_ (gd_fo _) | with_reducible refine GpY.tr ?_ (gd_ef _) | with_reducible refine GpY.tr ?_ (gd_cf _) | with_reducible refine GpY.tr ?_ (gd_wt _) | with_reducible refine GpY.tr ?_ (gd_xp _) | with_reducible refine GpY.tr ?_ (gd_acc _) | with_reducible refine GpY.tr ?_ (gd_rai _) | with_reducible refine GpY.tr ?_ (gd_e _) | with_reducible refine GpY.tr ?_ (gd_o _) | with_reducible refine GpY.tr ?_ (gd_c _) | with_reducible refine GpY.tr ?_ (gd_op _) | with_reducible refine GpY.tr ?_ (gd_clp gd_e _ _) | with_reducible refine GpY.tr ?_ (gd_tl _) | with_reducible refine GpY.tr ?_ (gd_sf _ _ _) | with_reducible refine GpY.tr ?_ (gd_cl _) | with_reducible refine GpY.tr ?_ (gd_pc _) | with_reducible refine GpY.tr ?_ (gd_st _) | with_reducible refine GpY.tr ?_ (gd_rw _) | with_reducible refine GpY.tr ?_ (gd_typ _) | with_reducible refine GpY.tr ?_ (gd_dcl _) | with_reducible refine GpY.tr ?_ (gd_va2 _) | with_reducible refine GpY.tr ?_ (gd_cnd _) | with_reducible refine GpY.tr ?_ (gd_tr1 _) | with_reducible refine GpY.tr ?_ (gd_tr2 (fun _ => gd_rw) _) | with_reducible refine GpY.tr ?_ (gd_tr3 (fun _ => gd_rw) _) | with_reducible refine GpY.tr ?_ (gd_fo1 _) | with_reducible refine GpY.tr ?_ (gd_fo2 _) | with_reducible refine GpY.tr ?_ (gd_fo3 _) | with_reducible refine GpY.tr ?_ (gd_fex _) | with_reducible refine GpY.tr ?_ (pg_var.1) | with_reducible refine GpY.tr ?_ (pg_cas.1) | exact GpY.rf))
              · dsimp only [Option.toList, List.cons_append, List.nil_append, Nat.beq, gI_sI, gI_sL, gI_sA, gI_sM, gL_sI, gL_sL, gL_sA, gL_sM, aI_sI, aI_sL, aI_sA, aI_sM, aL_sI, aL_sL, aL_sA, aL_sM]
                obtain ⟨hR22, hg22, hf22⟩ := SR.va (e := 0) (s := (accY (accY s))) (n := n) (by repeat (first | exact hR14 | refine SR.i ?_ rfl | refine SR.a ?_ rfl)) (by (try simp only [frR_i, frR_a, ne_eq, Nat.reduceEqDiff, not_false_eq_true, hf14, hf5]); exact hne) hva22 hSh22 hz22
                have hg22 := hg22 (by repeat (first | exact hg14 | refine FgR.i ?_ rfl | refine FgR.a ?_ rfl))
                have hR22 : SRx 0 τ22 (accY (vadY (aI τ5 6 (gI τ5 14).toNatClampNeg).toInt 1 (accY (accY s)))) n := hR22
                have q9_22 : gI τ22 49 = gI σ 49 := (hva22.1 49 (by decide) (by decide)).trans q9_14
                have hdc := dcl_y (ty := (aI τ5 6 (gI τ5 14).toNatClampNeg).toInt) (f := 1) (SR.z hR_) hcn hl22
                refine ⟨fun h25 => ?_, fun h25 => absurd h25 (by decide)⟩
                clear h25
                refine hB _ _ _ _ _ (fun m26 hm26 => ?_)
                dsimp only [ugo, uwp, ust, uct, rfd, Bdeclaration, Nat.beq, lv_args, rlk, rs1, rs2, rdl, rky, rcd, rno, rsw, Value.category, List.filter, List.take, List.drop, List.reverse, List.reverseAux, List.cons_append, List.nil_append, Option.toList, Int.toNat, Int.reduceToNat, if_pos, if_neg, reduceIte, ↓reduceIte, Nat.reduceAdd, Nat.reduceEqDiff, Nat.reduceBEq, beq_self_eq_true, Bool.not_true, Bool.not_false, Bool.and_true, Bool.and_false, Bool.true_and, Bool.false_and, gI_sI, gI_sL, gI_sA, gI_sM, gL_sI, gL_sL, gL_sA, gL_sM, aI_sI, aI_sL, aI_sA, aI_sM, aL_sI, aL_sL, aL_sA, aL_sM, Bdeclaration_0, Bdeclaration_11, Bdeclaration_18, Bdeclaration_20, Bdeclaration_31, Bdeclaration_36, Bdeclaration_53, Bdeclaration_55, Bdeclaration_68, Bdeclaration_73, Bdeclaration_95, Bdeclaration_97, Bdeclaration_110, Bdeclaration_114, Bdeclaration_119, Bdeclaration_124, Bdeclaration_147, Bdeclaration_154, Bdeclaration_156, Bdeclaration_179, Bdeclaration_183, Bdeclaration_184, oi_0, oi_1, oi_2, oi_21, oi_22, oi_61, Pu_emit]; try dsimp only
                refine ⟨trivial, fun w27 τ27 hq27 => ?_⟩
                obtain ⟨rfl, b27, rfl, hb27⟩ := hq27 trivial
                have he27 := (XrR.s (SR.x (e_ := 0) (by repeat (first | exact hR22 | refine SR.i ?_ rfl | refine SR.a ?_ rfl)))).sg (x := 61) (d := 8) (by decide)
                rcases hb27 with ⟨rfl, hk27⟩ | ⟨rfl, hk27⟩
                · dsimp only [Option.toList, List.cons_append, List.nil_append, Nat.beq, gI_sI, gI_sL, gI_sA, gI_sM, gL_sI, gL_sL, gL_sA, gL_sM, aI_sI, aI_sL, aI_sA, aI_sM, aL_sI, aL_sL, aL_sA, aL_sM]
                  have hc27 : codY (accY (vadY (aI τ5 6 (gI τ5 14).toNatClampNeg).toInt 1 (accY (accY s)))) = 8 := he27.mp hk27
                  refine ⟨fun h28 => ?_, fun h28 => absurd h28 (by decide)⟩
                  clear h28
                  refine hB _ _ _ _ _ (fun m29 hm29 => ?_)
                  dsimp only [ugo, uwp, ust, uct, rfd, Bdeclaration, Nat.beq, lv_args, rlk, rs1, rs2, rdl, rky, rcd, rno, rsw, Value.category, List.filter, List.take, List.drop, List.reverse, List.reverseAux, List.cons_append, List.nil_append, Option.toList, Int.toNat, Int.reduceToNat, if_pos, if_neg, reduceIte, ↓reduceIte, Nat.reduceAdd, Nat.reduceEqDiff, Nat.reduceBEq, beq_self_eq_true, Bool.not_true, Bool.not_false, Bool.and_true, Bool.and_false, Bool.true_and, Bool.false_and, gI_sI, gI_sL, gI_sA, gI_sM, gL_sI, gL_sL, gL_sA, gL_sM, aI_sI, aI_sL, aI_sA, aI_sM, aL_sI, aL_sL, aL_sA, aL_sM, Bdeclaration_0, Bdeclaration_11, Bdeclaration_18, Bdeclaration_20, Bdeclaration_31, Bdeclaration_36, Bdeclaration_53, Bdeclaration_55, Bdeclaration_68, Bdeclaration_73, Bdeclaration_95, Bdeclaration_97, Bdeclaration_110, Bdeclaration_114, Bdeclaration_119, Bdeclaration_124, Bdeclaration_147, Bdeclaration_154, Bdeclaration_156, Bdeclaration_179, Bdeclaration_183, Bdeclaration_184, oi_0, oi_1, oi_2, oi_21, oi_22, oi_61, Pu_emit]; try dsimp only
                  refine ⟨fun h30 => absurd h30 (by decide), fun h30 => ?_⟩
                  clear h30
                  refine hB _ _ _ _ _ (fun m31 hm31 => ?_)
                  dsimp only [ugo, uwp, ust, uct, rfd, Bdeclaration, Nat.beq, lv_args, rlk, rs1, rs2, rdl, rky, rcd, rno, rsw, Value.category, List.filter, List.take, List.drop, List.reverse, List.reverseAux, List.cons_append, List.nil_append, Option.toList, Int.toNat, Int.reduceToNat, if_pos, if_neg, reduceIte, ↓reduceIte, Nat.reduceAdd, Nat.reduceEqDiff, Nat.reduceBEq, beq_self_eq_true, Bool.not_true, Bool.not_false, Bool.and_true, Bool.and_false, Bool.true_and, Bool.false_and, gI_sI, gI_sL, gI_sA, gI_sM, gL_sI, gL_sL, gL_sA, gL_sM, aI_sI, aI_sL, aI_sA, aI_sM, aL_sI, aL_sL, aL_sA, aL_sM, Bdeclaration_0, Bdeclaration_11, Bdeclaration_18, Bdeclaration_20, Bdeclaration_31, Bdeclaration_36, Bdeclaration_53, Bdeclaration_55, Bdeclaration_68, Bdeclaration_73, Bdeclaration_95, Bdeclaration_97, Bdeclaration_110, Bdeclaration_114, Bdeclaration_119, Bdeclaration_124, Bdeclaration_147, Bdeclaration_154, Bdeclaration_156, Bdeclaration_179, Bdeclaration_183, Bdeclaration_184, oi_0, oi_1, oi_2, oi_21, oi_22, oi_61, Pu_emit]; try dsimp only
                  refine ⟨trivial, fun w32 τ32 hq32 => ?_⟩
                  obtain ⟨rfl, hE32⟩ := hq32
                  have hR32 := SR.em (e_ := 0) (s := (accY (vadY (aI τ5 6 (gI τ5 14).toNatClampNeg).toInt 1 (accY (accY s))))) (n := n) (by repeat (first | exact hR22 | refine SR.i ?_ rfl | refine SR.a ?_ rfl)) hE32
                  have hg32 := FgR.em (e_ := 0) (by repeat (first | exact hg22 | refine FgR.i ?_ rfl | refine FgR.a ?_ rfl)) (s := (accY (vadY (aI τ5 6 (gI τ5 14).toNatClampNeg).toInt 1 (accY (accY s))))) (n := n) (by repeat (first | exact hR22 | refine SR.i ?_ rfl | refine SR.a ?_ rfl)) hE32
                  have hf32 := frR_em hE32
                  dsimp only [Option.toList, List.cons_append, List.nil_append, Nat.beq, gI_sI, gI_sL, gI_sA, gI_sM, gL_sI, gL_sL, gL_sA, gL_sM, aI_sI, aI_sL, aI_sA, aI_sM, aL_sI, aL_sL, aL_sA, aL_sM]
                  have q9_32 : gI τ32 49 = gI σ 49 := (hE32.1 49 (by decide)).trans q9_22
                  intro p33
                  refine ⟨trivial, fun w34 τ34 hq34 => ?_⟩
                  have hq34 := hq34 _ (accY (vadY (aI τ5 6 (gI τ5 14).toNatClampNeg).toInt 1 (accY (accY s)))) n ⟨(SR.x (e_ := 0) (by repeat (first | exact hR32 | refine SR.i ?_ rfl | refine SR.a ?_ rfl))), by omega, by omega⟩
                  rcases hq34 with ⟨rfl, hF34⟩ | ⟨rfl, hX34, hz34, hS34⟩
                  · dsimp only [Option.toList, List.cons_append, List.nil_append, Nat.beq, gI_sI, gI_sL, gI_sA, gI_sM, gL_sI, gL_sL, gL_sA, gL_sM, aI_sI, aI_sL, aI_sA, aI_sM, aL_sI, aL_sL, aL_sA, aL_sM]
                    refine ⟨fun h35 => ?_, fun h35 => absurd h35 (by decide)⟩
                    clear h35
                    refine hB _ _ _ _ _ (fun m36 hm36 => ?_)
                    dsimp only [ugo, uwp, ust, uct, rfd, Bdeclaration, Nat.beq, lv_args, rlk, rs1, rs2, rdl, rky, rcd, rno, rsw, Value.category, List.filter, List.take, List.drop, List.reverse, List.reverseAux, List.cons_append, List.nil_append, Option.toList, Int.toNat, Int.reduceToNat, if_pos, if_neg, reduceIte, ↓reduceIte, Nat.reduceAdd, Nat.reduceEqDiff, Nat.reduceBEq, beq_self_eq_true, Bool.not_true, Bool.not_false, Bool.and_true, Bool.and_false, Bool.true_and, Bool.false_and, gI_sI, gI_sL, gI_sA, gI_sM, gL_sI, gL_sL, gL_sA, gL_sM, aI_sI, aI_sL, aI_sA, aI_sM, aL_sI, aL_sL, aL_sA, aL_sM, Bdeclaration_0, Bdeclaration_11, Bdeclaration_18, Bdeclaration_20, Bdeclaration_31, Bdeclaration_36, Bdeclaration_53, Bdeclaration_55, Bdeclaration_68, Bdeclaration_73, Bdeclaration_95, Bdeclaration_97, Bdeclaration_110, Bdeclaration_114, Bdeclaration_119, Bdeclaration_124, Bdeclaration_147, Bdeclaration_154, Bdeclaration_156, Bdeclaration_179, Bdeclaration_183, Bdeclaration_184, oi_0, oi_1, oi_2, oi_21, oi_22, oi_61, Pu_emit]; try dsimp only
                    unfold Qv_declaration
                    try dsimp only
                    refine Or.inl ⟨rfl, FlR.g hF34 ?_⟩
                    rw [var_1 hc2, typ_y hty, htv, hdc, va2_y hc27]
                    exact (by repeat (first | with_reducible exact GpY.rf | with_reducible refine GpY.tr ?_ (gd_fo _) | with_reducible refine GpY.tr ?_ (gd_ef _) | with_reducible refine GpY.tr ?_ (gd_cf _) | with_reducible refine GpY.tr ?_ (gd_wt _) | with_reducible refine GpY.tr ?_ (gd_xp _) | with_reducible refine GpY.tr ?_ (gd_acc _) | with_reducible refine GpY.tr ?_ (gd_rai _) | with_reducible refine GpY.tr ?_ (gd_e _) | with_reducible refine GpY.tr ?_ (gd_o _) | with_reducible refine GpY.tr ?_ (gd_c _) | with_reducible refine GpY.tr ?_ (gd_op _) | with_reducible refine GpY.tr ?_ (gd_clp gd_e _ _) | with_reducible refine GpY.tr ?_ (gd_tl _) | with_reducible refine GpY.tr ?_ (gd_sf _ _ _) | with_reducible refine GpY.tr ?_ (gd_cl _) | with_reducible refine GpY.tr ?_ (gd_pc _) | with_reducible refine GpY.tr ?_ (gd_st _) | with_reducible refine GpY.tr ?_ (gd_rw _) | with_reducible refine GpY.tr ?_ (gd_typ _) | with_reducible refine GpY.tr ?_ (gd_dcl _) | with_reducible refine GpY.tr ?_ (gd_va2 _) | with_reducible refine GpY.tr ?_ (gd_cnd _) | with_reducible refine GpY.tr ?_ (gd_tr1 _) | with_reducible refine GpY.tr ?_ (gd_tr2 (fun _ => gd_rw) _) | with_reducible refine GpY.tr ?_ (gd_tr3 (fun _ => gd_rw) _) | with_reducible refine GpY.tr ?_ (gd_fo1 _) | with_reducible refine GpY.tr ?_ (gd_fo2 _) | with_reducible refine GpY.tr ?_ (gd_fo3 _) | with_reducible refine GpY.tr ?_ (gd_fex _) | with_reducible refine GpY.tr ?_ (pg_var.1) | with_reducible refine GpY.tr ?_ (pg_cas.1) | exact GpY.rf))
                  · dsimp only [Option.toList, List.cons_append, List.nil_append, Nat.beq, gI_sI, gI_sL, gI_sA, gI_sM, gL_sI, gL_sL, gL_sA, gL_sM, aI_sI, aI_sL, aI_sA, aI_sM, aL_sI, aL_sL, aL_sA, aL_sM]
                    have hR34 := SR.kr (e_ := 0) (by repeat (first | exact hR32 | refine SR.i ?_ rfl | refine SR.a ?_ rfl)) hX34 acc2
                    have hg34 := FgR.kr (e_ := 0) (s := (accY (vadY (aI τ5 6 (gI τ5 14).toNatClampNeg).toInt 1 (accY (accY s))))) (n := n) (by repeat (first | exact hg32 | refine FgR.i ?_ rfl | refine FgR.a ?_ rfl)) (by repeat (first | exact hR32 | refine SR.i ?_ rfl | refine SR.a ?_ rfl)) hX34
                    have hf34 := frR_kr hX34
                    have q9_34 : gI τ34 49 = gI σ 49 := (hX34.2.2.1.1 49 rfl).trans q9_32
                    refine ⟨fun h37 => absurd h37 (by decide), fun h37 => ?_⟩
                    clear h37
                    refine hB _ _ _ _ _ (fun m38 hm38 => ?_)
                    dsimp only [ugo, uwp, ust, uct, rfd, Bdeclaration, Nat.beq, lv_args, rlk, rs1, rs2, rdl, rky, rcd, rno, rsw, Value.category, List.filter, List.take, List.drop, List.reverse, List.reverseAux, List.cons_append, List.nil_append, Option.toList, Int.toNat, Int.reduceToNat, if_pos, if_neg, reduceIte, ↓reduceIte, Nat.reduceAdd, Nat.reduceEqDiff, Nat.reduceBEq, beq_self_eq_true, Bool.not_true, Bool.not_false, Bool.and_true, Bool.and_false, Bool.true_and, Bool.false_and, gI_sI, gI_sL, gI_sA, gI_sM, gL_sI, gL_sL, gL_sA, gL_sM, aI_sI, aI_sL, aI_sA, aI_sM, aL_sI, aL_sL, aL_sA, aL_sM, Bdeclaration_0, Bdeclaration_11, Bdeclaration_18, Bdeclaration_20, Bdeclaration_31, Bdeclaration_36, Bdeclaration_53, Bdeclaration_55, Bdeclaration_68, Bdeclaration_73, Bdeclaration_95, Bdeclaration_97, Bdeclaration_110, Bdeclaration_114, Bdeclaration_119, Bdeclaration_124, Bdeclaration_147, Bdeclaration_154, Bdeclaration_156, Bdeclaration_179, Bdeclaration_183, Bdeclaration_184, oi_0, oi_1, oi_2, oi_21, oi_22, oi_61, Pu_emit]; try dsimp only
                    refine ⟨trivial, fun w39 τ39 hq39 => ?_⟩
                    have hq39 := hq39 _ (accY (accY (vadY (aI τ5 6 (gI τ5 14).toNatClampNeg).toInt 1 (accY (accY s))))) n ⟨(SR.x (e_ := 0) (by repeat (first | exact hR34 | refine SR.i ?_ rfl | refine SR.a ?_ rfl))), by omega⟩
                    rcases hq39 with ⟨rfl, hF39⟩ | ⟨rfl, hX39, hs2_39⟩
                    · dsimp only [Option.toList, List.cons_append, List.nil_append, Nat.beq, gI_sI, gI_sL, gI_sA, gI_sM, gL_sI, gL_sL, gL_sA, gL_sM, aI_sI, aI_sL, aI_sA, aI_sM, aL_sI, aL_sL, aL_sA, aL_sM]
                      refine ⟨fun h40 => absurd h40 (by decide), fun h40 => ?_⟩
                      clear h40
                      refine hB _ _ _ _ _ (fun m41 hm41 => ?_)
                      dsimp only [ugo, uwp, ust, uct, rfd, Bdeclaration, Nat.beq, lv_args, rlk, rs1, rs2, rdl, rky, rcd, rno, rsw, Value.category, List.filter, List.take, List.drop, List.reverse, List.reverseAux, List.cons_append, List.nil_append, Option.toList, Int.toNat, Int.reduceToNat, if_pos, if_neg, reduceIte, ↓reduceIte, Nat.reduceAdd, Nat.reduceEqDiff, Nat.reduceBEq, beq_self_eq_true, Bool.not_true, Bool.not_false, Bool.and_true, Bool.and_false, Bool.true_and, Bool.false_and, gI_sI, gI_sL, gI_sA, gI_sM, gL_sI, gL_sL, gL_sA, gL_sM, aI_sI, aI_sL, aI_sA, aI_sM, aL_sI, aL_sL, aL_sA, aL_sM, Bdeclaration_0, Bdeclaration_11, Bdeclaration_18, Bdeclaration_20, Bdeclaration_31, Bdeclaration_36, Bdeclaration_53, Bdeclaration_55, Bdeclaration_68, Bdeclaration_73, Bdeclaration_95, Bdeclaration_97, Bdeclaration_110, Bdeclaration_114, Bdeclaration_119, Bdeclaration_124, Bdeclaration_147, Bdeclaration_154, Bdeclaration_156, Bdeclaration_179, Bdeclaration_183, Bdeclaration_184, oi_0, oi_1, oi_2, oi_21, oi_22, oi_61, Pu_emit]; try dsimp only
                      unfold Qv_declaration
                      try dsimp only
                      refine Or.inl ⟨rfl, FlR.g hF39 ?_⟩
                      rw [var_1 hc2, typ_y hty, htv, hdc, va2_y hc27]
                      exact (by repeat (first | with_reducible exact GpY.rf | with_reducible refine GpY.tr ?_ (gd_fo _) | with_reducible refine GpY.tr ?_ (gd_ef _) | with_reducible refine GpY.tr ?_ (gd_cf _) | with_reducible refine GpY.tr ?_ (gd_wt _) | with_reducible refine GpY.tr ?_ (gd_xp _) | with_reducible refine GpY.tr ?_ (gd_acc _) | with_reducible refine GpY.tr ?_ (gd_rai _) | with_reducible refine GpY.tr ?_ (gd_e _) | with_reducible refine GpY.tr ?_ (gd_o _) | with_reducible refine GpY.tr ?_ (gd_c _) | with_reducible refine GpY.tr ?_ (gd_op _) | with_reducible refine GpY.tr ?_ (gd_clp gd_e _ _) | with_reducible refine GpY.tr ?_ (gd_tl _) | with_reducible refine GpY.tr ?_ (gd_sf _ _ _) | with_reducible refine GpY.tr ?_ (gd_cl _) | with_reducible refine GpY.tr ?_ (gd_pc _) | with_reducible refine GpY.tr ?_ (gd_st _) | with_reducible refine GpY.tr ?_ (gd_rw _) | with_reducible refine GpY.tr ?_ (gd_typ _) | with_reducible refine GpY.tr ?_ (gd_dcl _) | with_reducible refine GpY.tr ?_ (gd_va2 _) | with_reducible refine GpY.tr ?_ (gd_cnd _) | with_reducible refine GpY.tr ?_ (gd_tr1 _) | with_reducible refine GpY.tr ?_ (gd_tr2 (fun _ => gd_rw) _) | with_reducible refine GpY.tr ?_ (gd_tr3 (fun _ => gd_rw) _) | with_reducible refine GpY.tr ?_ (gd_fo1 _) | with_reducible refine GpY.tr ?_ (gd_fo2 _) | with_reducible refine GpY.tr ?_ (gd_fo3 _) | with_reducible refine GpY.tr ?_ (gd_fex _) | with_reducible refine GpY.tr ?_ (pg_var.1) | with_reducible refine GpY.tr ?_ (pg_cas.1) | exact GpY.rf))
                    · dsimp only [Option.toList, List.cons_append, List.nil_append, Nat.beq, gI_sI, gI_sL, gI_sA, gI_sM, gL_sI, gL_sL, gL_sA, gL_sM, aI_sI, aI_sL, aI_sA, aI_sM, aL_sI, aL_sL, aL_sA, aL_sM]
                      have hR39 := SR.kr (e_ := 0) (by repeat (first | exact hR34 | refine SR.i ?_ rfl | refine SR.a ?_ rfl)) hX39 hs2_39
                      have hg39 := FgR.kr (e_ := 0) (s := (accY (accY (vadY (aI τ5 6 (gI τ5 14).toNatClampNeg).toInt 1 (accY (accY s)))))) (n := n) (by repeat (first | exact hg34 | refine FgR.i ?_ rfl | refine FgR.a ?_ rfl)) (by repeat (first | exact hR34 | refine SR.i ?_ rfl | refine SR.a ?_ rfl)) hX39
                      have hf39 := frR_kr hX39
                      have q9_39 : gI τ39 49 = gI σ 49 := (hX39.2.2.1.1 49 rfl).trans q9_34
                      refine ⟨fun h42 => ?_, fun h42 => absurd h42 (by decide)⟩
                      clear h42
                      refine hB _ _ _ _ _ (fun m43 hm43 => ?_)
                      dsimp only [ugo, uwp, ust, uct, rfd, Bdeclaration, Nat.beq, lv_args, rlk, rs1, rs2, rdl, rky, rcd, rno, rsw, Value.category, List.filter, List.take, List.drop, List.reverse, List.reverseAux, List.cons_append, List.nil_append, Option.toList, Int.toNat, Int.reduceToNat, if_pos, if_neg, reduceIte, ↓reduceIte, Nat.reduceAdd, Nat.reduceEqDiff, Nat.reduceBEq, beq_self_eq_true, Bool.not_true, Bool.not_false, Bool.and_true, Bool.and_false, Bool.true_and, Bool.false_and, gI_sI, gI_sL, gI_sA, gI_sM, gL_sI, gL_sL, gL_sA, gL_sM, aI_sI, aI_sL, aI_sA, aI_sM, aL_sI, aL_sL, aL_sA, aL_sM, Bdeclaration_0, Bdeclaration_11, Bdeclaration_18, Bdeclaration_20, Bdeclaration_31, Bdeclaration_36, Bdeclaration_53, Bdeclaration_55, Bdeclaration_68, Bdeclaration_73, Bdeclaration_95, Bdeclaration_97, Bdeclaration_110, Bdeclaration_114, Bdeclaration_119, Bdeclaration_124, Bdeclaration_147, Bdeclaration_154, Bdeclaration_156, Bdeclaration_179, Bdeclaration_183, Bdeclaration_184, oi_0, oi_1, oi_2, oi_21, oi_22, oi_61, Pu_emit]; try dsimp only
                      refine ⟨trivial, fun w44 τ44 hq44 => ?_⟩
                      obtain ⟨rfl, hE44⟩ := hq44
                      have hR44 := SR.em (e_ := 0) (s := (eY n (accY (accY (vadY (aI τ5 6 (gI τ5 14).toNatClampNeg).toInt 1 (accY (accY s))))))) (n := n) (by repeat (first | exact hR39 | refine SR.i ?_ rfl | refine SR.a ?_ rfl)) hE44
                      have hg44 := FgR.em (e_ := 0) (by repeat (first | exact hg39 | refine FgR.i ?_ rfl | refine FgR.a ?_ rfl)) (s := (eY n (accY (accY (vadY (aI τ5 6 (gI τ5 14).toNatClampNeg).toInt 1 (accY (accY s))))))) (n := n) (by repeat (first | exact hR39 | refine SR.i ?_ rfl | refine SR.a ?_ rfl)) hE44
                      have hf44 := frR_em hE44
                      dsimp only [Option.toList, List.cons_append, List.nil_append, Nat.beq, gI_sI, gI_sL, gI_sA, gI_sM, gL_sI, gL_sL, gL_sA, gL_sM, aI_sI, aI_sL, aI_sA, aI_sM, aL_sI, aL_sL, aL_sA, aL_sM]
                      have q9_44 : gI τ44 49 = gI σ 49 := (hE44.1 49 (by decide)).trans q9_39
                      refine ⟨fun h45 => absurd h45 (by decide), fun h45 => ?_⟩
                      clear h45
                      refine hB _ _ _ _ _ (fun m46 hm46 => ?_)
                      dsimp only [ugo, uwp, ust, uct, rfd, Bdeclaration, Nat.beq, lv_args, rlk, rs1, rs2, rdl, rky, rcd, rno, rsw, Value.category, List.filter, List.take, List.drop, List.reverse, List.reverseAux, List.cons_append, List.nil_append, Option.toList, Int.toNat, Int.reduceToNat, if_pos, if_neg, reduceIte, ↓reduceIte, Nat.reduceAdd, Nat.reduceEqDiff, Nat.reduceBEq, beq_self_eq_true, Bool.not_true, Bool.not_false, Bool.and_true, Bool.and_false, Bool.true_and, Bool.false_and, gI_sI, gI_sL, gI_sA, gI_sM, gL_sI, gL_sL, gL_sA, gL_sM, aI_sI, aI_sL, aI_sA, aI_sM, aL_sI, aL_sL, aL_sA, aL_sM, Bdeclaration_0, Bdeclaration_11, Bdeclaration_18, Bdeclaration_20, Bdeclaration_31, Bdeclaration_36, Bdeclaration_53, Bdeclaration_55, Bdeclaration_68, Bdeclaration_73, Bdeclaration_95, Bdeclaration_97, Bdeclaration_110, Bdeclaration_114, Bdeclaration_119, Bdeclaration_124, Bdeclaration_147, Bdeclaration_154, Bdeclaration_156, Bdeclaration_179, Bdeclaration_183, Bdeclaration_184, oi_0, oi_1, oi_2, oi_21, oi_22, oi_61, Pu_emit]; try dsimp only
                      refine hB _ _ _ _ _ (fun m47 hm47 => ?_)
                      dsimp only [ugo, uwp, ust, uct, rfd, Bdeclaration, Nat.beq, lv_args, rlk, rs1, rs2, rdl, rky, rcd, rno, rsw, Value.category, List.filter, List.take, List.drop, List.reverse, List.reverseAux, List.cons_append, List.nil_append, Option.toList, Int.toNat, Int.reduceToNat, if_pos, if_neg, reduceIte, ↓reduceIte, Nat.reduceAdd, Nat.reduceEqDiff, Nat.reduceBEq, beq_self_eq_true, Bool.not_true, Bool.not_false, Bool.and_true, Bool.and_false, Bool.true_and, Bool.false_and, gI_sI, gI_sL, gI_sA, gI_sM, gL_sI, gL_sL, gL_sA, gL_sM, aI_sI, aI_sL, aI_sA, aI_sM, aL_sI, aL_sL, aL_sA, aL_sM, Bdeclaration_0, Bdeclaration_11, Bdeclaration_18, Bdeclaration_20, Bdeclaration_31, Bdeclaration_36, Bdeclaration_53, Bdeclaration_55, Bdeclaration_68, Bdeclaration_73, Bdeclaration_95, Bdeclaration_97, Bdeclaration_110, Bdeclaration_114, Bdeclaration_119, Bdeclaration_124, Bdeclaration_147, Bdeclaration_154, Bdeclaration_156, Bdeclaration_179, Bdeclaration_183, Bdeclaration_184, oi_0, oi_1, oi_2, oi_21, oi_22, oi_61, Pu_emit]; try dsimp only
                      intro p48
                      unfold Qv_declaration
                      try dsimp only
                      refine Or.inr ⟨rfl, ?_⟩
                      rw [var_1 hc2, typ_y hty, htv, hdc, va2_y hc27]
                      exact ⟨(by repeat (first | exact hR44 | refine SR.i ?_ rfl | refine SR.a ?_ rfl)), (by repeat (first | exact hg44 | refine FgR.i ?_ rfl | refine FgR.a ?_ rfl)), (by simp only [frR_i, frR_a, ne_eq, Nat.reduceEqDiff, not_false_eq_true, hf44, hf39, hf34, hf32, hf22, hf14, hf5]), q9_44⟩
                · dsimp only [Option.toList, List.cons_append, List.nil_append, Nat.beq, gI_sI, gI_sL, gI_sA, gI_sM, gL_sI, gL_sL, gL_sA, gL_sM, aI_sI, aI_sL, aI_sA, aI_sM, aL_sI, aL_sL, aL_sA, aL_sM]
                  have hc27 : ¬ codY (accY (vadY (aI τ5 6 (gI τ5 14).toNatClampNeg).toInt 1 (accY (accY s)))) = 8 := fun q => hk27 (he27.mpr q)
                  refine ⟨fun h49 => absurd h49 (by decide), fun h49 => ?_⟩
                  clear h49
                  refine hB _ _ _ _ _ (fun m50 hm50 => ?_)
                  dsimp only [ugo, uwp, ust, uct, rfd, Bdeclaration, Nat.beq, lv_args, rlk, rs1, rs2, rdl, rky, rcd, rno, rsw, Value.category, List.filter, List.take, List.drop, List.reverse, List.reverseAux, List.cons_append, List.nil_append, Option.toList, Int.toNat, Int.reduceToNat, if_pos, if_neg, reduceIte, ↓reduceIte, Nat.reduceAdd, Nat.reduceEqDiff, Nat.reduceBEq, beq_self_eq_true, Bool.not_true, Bool.not_false, Bool.and_true, Bool.and_false, Bool.true_and, Bool.false_and, gI_sI, gI_sL, gI_sA, gI_sM, gL_sI, gL_sL, gL_sA, gL_sM, aI_sI, aI_sL, aI_sA, aI_sM, aL_sI, aL_sL, aL_sA, aL_sM, Bdeclaration_0, Bdeclaration_11, Bdeclaration_18, Bdeclaration_20, Bdeclaration_31, Bdeclaration_36, Bdeclaration_53, Bdeclaration_55, Bdeclaration_68, Bdeclaration_73, Bdeclaration_95, Bdeclaration_97, Bdeclaration_110, Bdeclaration_114, Bdeclaration_119, Bdeclaration_124, Bdeclaration_147, Bdeclaration_154, Bdeclaration_156, Bdeclaration_179, Bdeclaration_183, Bdeclaration_184, oi_0, oi_1, oi_2, oi_21, oi_22, oi_61, Pu_emit]; try dsimp only
                  refine ⟨fun h51 => absurd h51 (by decide), fun h51 => ?_⟩
                  clear h51
                  refine hB _ _ _ _ _ (fun m52 hm52 => ?_)
                  dsimp only [ugo, uwp, ust, uct, rfd, Bdeclaration, Nat.beq, lv_args, rlk, rs1, rs2, rdl, rky, rcd, rno, rsw, Value.category, List.filter, List.take, List.drop, List.reverse, List.reverseAux, List.cons_append, List.nil_append, Option.toList, Int.toNat, Int.reduceToNat, if_pos, if_neg, reduceIte, ↓reduceIte, Nat.reduceAdd, Nat.reduceEqDiff, Nat.reduceBEq, beq_self_eq_true, Bool.not_true, Bool.not_false, Bool.and_true, Bool.and_false, Bool.true_and, Bool.false_and, gI_sI, gI_sL, gI_sA, gI_sM, gL_sI, gL_sL, gL_sA, gL_sM, aI_sI, aI_sL, aI_sA, aI_sM, aL_sI, aL_sL, aL_sA, aL_sM, Bdeclaration_0, Bdeclaration_11, Bdeclaration_18, Bdeclaration_20, Bdeclaration_31, Bdeclaration_36, Bdeclaration_53, Bdeclaration_55, Bdeclaration_68, Bdeclaration_73, Bdeclaration_95, Bdeclaration_97, Bdeclaration_110, Bdeclaration_114, Bdeclaration_119, Bdeclaration_124, Bdeclaration_147, Bdeclaration_154, Bdeclaration_156, Bdeclaration_179, Bdeclaration_183, Bdeclaration_184, oi_0, oi_1, oi_2, oi_21, oi_22, oi_61, Pu_emit]; try dsimp only
                  refine ⟨trivial, fun w53 τ53 hq53 => ?_⟩
                  have hq53 := hq53 (accY (vadY (aI τ5 6 (gI τ5 14).toNatClampNeg).toInt 1 (accY (accY s)))) (XrR.s (SR.x (e_ := 0) (by repeat (first | exact hR22 | refine SR.i ?_ rfl | refine SR.a ?_ rfl))))
                  obtain ⟨rfl, hF53⟩ := hq53
                  dsimp only [Option.toList, List.cons_append, List.nil_append, Nat.beq, gI_sI, gI_sL, gI_sA, gI_sM, gL_sI, gL_sL, gL_sA, gL_sM, aI_sI, aI_sL, aI_sA, aI_sM, aL_sI, aL_sL, aL_sA, aL_sM]
                  unfold Qv_declaration
                  try dsimp only
                  refine Or.inl ⟨rfl, FlR.g hF53 ?_⟩
                  rw [var_1 hc2, typ_y hty, htv, hdc, va2_c hc27]
                  exact (by repeat (first | with_reducible exact GpY.rf | with_reducible refine GpY.tr ?_ (gd_fo _) | with_reducible refine GpY.tr ?_ (gd_ef _) | with_reducible refine GpY.tr ?_ (gd_cf _) | with_reducible refine GpY.tr ?_ (gd_wt _) | with_reducible refine GpY.tr ?_ (gd_xp _) | with_reducible refine GpY.tr ?_ (gd_acc _) | with_reducible refine GpY.tr ?_ (gd_rai _) | with_reducible refine GpY.tr ?_ (gd_e _) | with_reducible refine GpY.tr ?_ (gd_o _) | with_reducible refine GpY.tr ?_ (gd_c _) | with_reducible refine GpY.tr ?_ (gd_op _) | with_reducible refine GpY.tr ?_ (gd_clp gd_e _ _) | with_reducible refine GpY.tr ?_ (gd_tl _) | with_reducible refine GpY.tr ?_ (gd_sf _ _ _) | with_reducible refine GpY.tr ?_ (gd_cl _) | with_reducible refine GpY.tr ?_ (gd_pc _) | with_reducible refine GpY.tr ?_ (gd_st _) | with_reducible refine GpY.tr ?_ (gd_rw _) | with_reducible refine GpY.tr ?_ (gd_typ _) | with_reducible refine GpY.tr ?_ (gd_dcl _) | with_reducible refine GpY.tr ?_ (gd_va2 _) | with_reducible refine GpY.tr ?_ (gd_cnd _) | with_reducible refine GpY.tr ?_ (gd_tr1 _) | with_reducible refine GpY.tr ?_ (gd_tr2 (fun _ => gd_rw) _) | with_reducible refine GpY.tr ?_ (gd_tr3 (fun _ => gd_rw) _) | with_reducible refine GpY.tr ?_ (gd_fo1 _) | with_reducible refine GpY.tr ?_ (gd_fo2 _) | with_reducible refine GpY.tr ?_ (gd_fo3 _) | with_reducible refine GpY.tr ?_ (gd_fex _) | with_reducible refine GpY.tr ?_ (pg_var.1) | with_reducible refine GpY.tr ?_ (pg_cas.1) | exact GpY.rf))
            · refine hB _ _ _ _ _ (fun m54 hm54 => ?_)
              dsimp only [ugo, uwp, ust, uct, rfd, Bdeclaration, Nat.beq, lv_args, rlk, rs1, rs2, rdl, rky, rcd, rno, rsw, Value.category, List.filter, List.take, List.drop, List.reverse, List.reverseAux, List.cons_append, List.nil_append, Option.toList, Int.toNat, Int.reduceToNat, if_pos, if_neg, reduceIte, ↓reduceIte, Nat.reduceAdd, Nat.reduceEqDiff, Nat.reduceBEq, beq_self_eq_true, Bool.not_true, Bool.not_false, Bool.and_true, Bool.and_false, Bool.true_and, Bool.false_and, gI_sI, gI_sL, gI_sA, gI_sM, gL_sI, gL_sL, gL_sA, gL_sM, aI_sI, aI_sL, aI_sA, aI_sM, aL_sI, aL_sL, aL_sA, aL_sM, Bdeclaration_0, Bdeclaration_11, Bdeclaration_18, Bdeclaration_20, Bdeclaration_31, Bdeclaration_36, Bdeclaration_53, Bdeclaration_55, Bdeclaration_68, Bdeclaration_73, Bdeclaration_95, Bdeclaration_97, Bdeclaration_110, Bdeclaration_114, Bdeclaration_119, Bdeclaration_124, Bdeclaration_147, Bdeclaration_154, Bdeclaration_156, Bdeclaration_179, Bdeclaration_183, Bdeclaration_184, oi_0, oi_1, oi_2, oi_21, oi_22, oi_61, Pu_emit]; try dsimp only
              have hnn : ¬ codY (accY (accY s)) = 80 := fun q => h20 ((SR.sh hR14).ki.2.2.1.mpr q)
              refine ⟨trivial, fun w55 τ55 hq55 => ?_⟩
              have hq55 := hq55 (accY (accY s)) (XrR.s (SR.x (e_ := 0) (by repeat (first | exact hR14 | refine SR.i ?_ rfl | refine SR.a ?_ rfl))))
              obtain ⟨rfl, hF55⟩ := hq55
              dsimp only [Option.toList, List.cons_append, List.nil_append, Nat.beq, gI_sI, gI_sL, gI_sA, gI_sM, gL_sI, gL_sL, gL_sA, gL_sM, aI_sI, aI_sL, aI_sA, aI_sM, aL_sI, aL_sL, aL_sA, aL_sM]
              unfold Qv_declaration
              try dsimp only
              refine Or.inl ⟨rfl, FlR.g hF55 ?_⟩
              rw [var_1 hc2, typ_y hty, dcl_n hnn]
              exact (by repeat (first | with_reducible exact GpY.rf | with_reducible refine GpY.tr ?_ (gd_fo _) | with_reducible refine GpY.tr ?_ (gd_ef _) | with_reducible refine GpY.tr ?_ (gd_cf _) | with_reducible refine GpY.tr ?_ (gd_wt _) | with_reducible refine GpY.tr ?_ (gd_xp _) | with_reducible refine GpY.tr ?_ (gd_acc _) | with_reducible refine GpY.tr ?_ (gd_rai _) | with_reducible refine GpY.tr ?_ (gd_e _) | with_reducible refine GpY.tr ?_ (gd_o _) | with_reducible refine GpY.tr ?_ (gd_c _) | with_reducible refine GpY.tr ?_ (gd_op _) | with_reducible refine GpY.tr ?_ (gd_clp gd_e _ _) | with_reducible refine GpY.tr ?_ (gd_tl _) | with_reducible refine GpY.tr ?_ (gd_sf _ _ _) | with_reducible refine GpY.tr ?_ (gd_cl _) | with_reducible refine GpY.tr ?_ (gd_pc _) | with_reducible refine GpY.tr ?_ (gd_st _) | with_reducible refine GpY.tr ?_ (gd_rw _) | with_reducible refine GpY.tr ?_ (gd_typ _) | with_reducible refine GpY.tr ?_ (gd_dcl _) | with_reducible refine GpY.tr ?_ (gd_va2 _) | with_reducible refine GpY.tr ?_ (gd_cnd _) | with_reducible refine GpY.tr ?_ (gd_tr1 _) | with_reducible refine GpY.tr ?_ (gd_tr2 (fun _ => gd_rw) _) | with_reducible refine GpY.tr ?_ (gd_tr3 (fun _ => gd_rw) _) | with_reducible refine GpY.tr ?_ (gd_fo1 _) | with_reducible refine GpY.tr ?_ (gd_fo2 _) | with_reducible refine GpY.tr ?_ (gd_fo3 _) | with_reducible refine GpY.tr ?_ (gd_fex _) | with_reducible refine GpY.tr ?_ (pg_var.1) | with_reducible refine GpY.tr ?_ (pg_cas.1) | exact GpY.rf))
        · dsimp only [Option.toList, List.cons_append, List.nil_append, Nat.beq, gI_sI, gI_sL, gI_sA, gI_sM, gL_sI, gL_sL, gL_sA, gL_sM, aI_sI, aI_sL, aI_sA, aI_sM, aL_sI, aL_sL, aL_sA, aL_sM]
          have hc10 : ¬ (50 ≤ codY (accY s) ∧ codY (accY s) ≤ 54) := fun q => hk10 (he10.mpr q)
          refine ⟨fun h56 => absurd h56 (by decide), fun h56 => ?_⟩
          clear h56
          refine hB _ _ _ _ _ (fun m57 hm57 => ?_)
          dsimp only [ugo, uwp, ust, uct, rfd, Bdeclaration, Nat.beq, lv_args, rlk, rs1, rs2, rdl, rky, rcd, rno, rsw, Value.category, List.filter, List.take, List.drop, List.reverse, List.reverseAux, List.cons_append, List.nil_append, Option.toList, Int.toNat, Int.reduceToNat, if_pos, if_neg, reduceIte, ↓reduceIte, Nat.reduceAdd, Nat.reduceEqDiff, Nat.reduceBEq, beq_self_eq_true, Bool.not_true, Bool.not_false, Bool.and_true, Bool.and_false, Bool.true_and, Bool.false_and, gI_sI, gI_sL, gI_sA, gI_sM, gL_sI, gL_sL, gL_sA, gL_sM, aI_sI, aI_sL, aI_sA, aI_sM, aL_sI, aL_sL, aL_sA, aL_sM, Bdeclaration_0, Bdeclaration_11, Bdeclaration_18, Bdeclaration_20, Bdeclaration_31, Bdeclaration_36, Bdeclaration_53, Bdeclaration_55, Bdeclaration_68, Bdeclaration_73, Bdeclaration_95, Bdeclaration_97, Bdeclaration_110, Bdeclaration_114, Bdeclaration_119, Bdeclaration_124, Bdeclaration_147, Bdeclaration_154, Bdeclaration_156, Bdeclaration_179, Bdeclaration_183, Bdeclaration_184, oi_0, oi_1, oi_2, oi_21, oi_22, oi_61, Pu_emit]; try dsimp only
          refine ⟨trivial, fun w58 τ58 hq58 => ?_⟩
          have hq58 := hq58 (accY s) (XrR.s (SR.x (e_ := 0) (by repeat (first | exact hR5 | refine SR.i ?_ rfl | refine SR.a ?_ rfl))))
          obtain ⟨rfl, hF58⟩ := hq58
          dsimp only [Option.toList, List.cons_append, List.nil_append, Nat.beq, gI_sI, gI_sL, gI_sA, gI_sM, gL_sI, gL_sL, gL_sA, gL_sM, aI_sI, aI_sL, aI_sA, aI_sM, aL_sI, aL_sL, aL_sA, aL_sM]
          unfold Qv_declaration
          try dsimp only
          refine Or.inl ⟨rfl, FlR.g hF58 ?_⟩
          rw [var_1 hc2, typ_n hc10]
          exact (by repeat (first | with_reducible exact GpY.rf | with_reducible refine GpY.tr ?_ (gd_fo _) | with_reducible refine GpY.tr ?_ (gd_ef _) | with_reducible refine GpY.tr ?_ (gd_cf _) | with_reducible refine GpY.tr ?_ (gd_wt _) | with_reducible refine GpY.tr ?_ (gd_xp _) | with_reducible refine GpY.tr ?_ (gd_acc _) | with_reducible refine GpY.tr ?_ (gd_rai _) | with_reducible refine GpY.tr ?_ (gd_e _) | with_reducible refine GpY.tr ?_ (gd_o _) | with_reducible refine GpY.tr ?_ (gd_c _) | with_reducible refine GpY.tr ?_ (gd_op _) | with_reducible refine GpY.tr ?_ (gd_clp gd_e _ _) | with_reducible refine GpY.tr ?_ (gd_tl _) | with_reducible refine GpY.tr ?_ (gd_sf _ _ _) | with_reducible refine GpY.tr ?_ (gd_cl _) | with_reducible refine GpY.tr ?_ (gd_pc _) | with_reducible refine GpY.tr ?_ (gd_st _) | with_reducible refine GpY.tr ?_ (gd_rw _) | with_reducible refine GpY.tr ?_ (gd_typ _) | with_reducible refine GpY.tr ?_ (gd_dcl _) | with_reducible refine GpY.tr ?_ (gd_va2 _) | with_reducible refine GpY.tr ?_ (gd_cnd _) | with_reducible refine GpY.tr ?_ (gd_tr1 _) | with_reducible refine GpY.tr ?_ (gd_tr2 (fun _ => gd_rw) _) | with_reducible refine GpY.tr ?_ (gd_tr3 (fun _ => gd_rw) _) | with_reducible refine GpY.tr ?_ (gd_fo1 _) | with_reducible refine GpY.tr ?_ (gd_fo2 _) | with_reducible refine GpY.tr ?_ (gd_fo3 _) | with_reducible refine GpY.tr ?_ (gd_fex _) | with_reducible refine GpY.tr ?_ (pg_var.1) | with_reducible refine GpY.tr ?_ (pg_cas.1) | exact GpY.rf))
    · dsimp only [Option.toList, List.cons_append, List.nil_append, Nat.beq, gI_sI, gI_sL, gI_sA, gI_sM, gL_sI, gL_sL, gL_sA, gL_sM, aI_sI, aI_sL, aI_sA, aI_sM, aL_sI, aL_sL, aL_sA, aL_sM]
      have hc2 : ¬ codY s = 71 := fun q => hk2 (he2.mpr q)
      refine ⟨fun h59 => ?_, fun h59 => absurd h59 (by decide)⟩
      clear h59
      refine hB _ _ _ _ _ (fun m60 hm60 => ?_)
      dsimp only [ugo, uwp, ust, uct, rfd, Bdeclaration, Nat.beq, lv_args, rlk, rs1, rs2, rdl, rky, rcd, rno, rsw, Value.category, List.filter, List.take, List.drop, List.reverse, List.reverseAux, List.cons_append, List.nil_append, Option.toList, Int.toNat, Int.reduceToNat, if_pos, if_neg, reduceIte, ↓reduceIte, Nat.reduceAdd, Nat.reduceEqDiff, Nat.reduceBEq, beq_self_eq_true, Bool.not_true, Bool.not_false, Bool.and_true, Bool.and_false, Bool.true_and, Bool.false_and, gI_sI, gI_sL, gI_sA, gI_sM, gL_sI, gL_sL, gL_sA, gL_sM, aI_sI, aI_sL, aI_sA, aI_sM, aL_sI, aL_sL, aL_sA, aL_sM, Bdeclaration_0, Bdeclaration_11, Bdeclaration_18, Bdeclaration_20, Bdeclaration_31, Bdeclaration_36, Bdeclaration_53, Bdeclaration_55, Bdeclaration_68, Bdeclaration_73, Bdeclaration_95, Bdeclaration_97, Bdeclaration_110, Bdeclaration_114, Bdeclaration_119, Bdeclaration_124, Bdeclaration_147, Bdeclaration_154, Bdeclaration_156, Bdeclaration_179, Bdeclaration_183, Bdeclaration_184, oi_0, oi_1, oi_2, oi_21, oi_22, oi_61, Pu_emit]; try dsimp only
      refine ⟨trivial, fun w61 τ61 hq61 => ?_⟩
      obtain ⟨rfl, b61, rfl, hb61⟩ := hq61 trivial
      have he61 := (XrR.s (SR.x (e_ := 0) (by repeat (first | exact hR | refine SR.i ?_ rfl | refine SR.a ?_ rfl)))).ty
      rcases hb61 with ⟨rfl, hk61⟩ | ⟨rfl, hk61⟩
      · dsimp only [Option.toList, List.cons_append, List.nil_append, Nat.beq, gI_sI, gI_sL, gI_sA, gI_sM, gL_sI, gL_sL, gL_sA, gL_sM, aI_sI, aI_sL, aI_sA, aI_sM, aL_sI, aL_sL, aL_sA, aL_sM]
        have hc61 : 50 ≤ codY s ∧ codY s ≤ 54 := he61.mp hk61
        refine ⟨fun h62 => ?_, fun h62 => absurd h62 (by decide)⟩
        clear h62
        refine hB _ _ _ _ _ (fun m63 hm63 => ?_)
        dsimp only [ugo, uwp, ust, uct, rfd, Bdeclaration, Nat.beq, lv_args, rlk, rs1, rs2, rdl, rky, rcd, rno, rsw, Value.category, List.filter, List.take, List.drop, List.reverse, List.reverseAux, List.cons_append, List.nil_append, Option.toList, Int.toNat, Int.reduceToNat, if_pos, if_neg, reduceIte, ↓reduceIte, Nat.reduceAdd, Nat.reduceEqDiff, Nat.reduceBEq, beq_self_eq_true, Bool.not_true, Bool.not_false, Bool.and_true, Bool.and_false, Bool.true_and, Bool.false_and, gI_sI, gI_sL, gI_sA, gI_sM, gL_sI, gL_sL, gL_sA, gL_sM, aI_sI, aI_sL, aI_sA, aI_sM, aL_sI, aL_sL, aL_sA, aL_sM, Bdeclaration_0, Bdeclaration_11, Bdeclaration_18, Bdeclaration_20, Bdeclaration_31, Bdeclaration_36, Bdeclaration_53, Bdeclaration_55, Bdeclaration_68, Bdeclaration_73, Bdeclaration_95, Bdeclaration_97, Bdeclaration_110, Bdeclaration_114, Bdeclaration_119, Bdeclaration_124, Bdeclaration_147, Bdeclaration_154, Bdeclaration_156, Bdeclaration_179, Bdeclaration_183, Bdeclaration_184, oi_0, oi_1, oi_2, oi_21, oi_22, oi_61, Pu_emit]; try dsimp only
        have hty : 50 ≤ codY s ∧ codY s ≤ 54 := hc61
        have hty2 := (SR.sh hR).ty2 (show 50 ≤ codY s ∧ codY s ≤ 55 by omega)
        have htv := (tyv_y hty).trans hty2.symm
        intro p64
        refine ⟨trivial, fun w65 τ65 hq65 => ?_⟩
        have hq65 := hq65 _ s n ⟨(SR.x (e_ := 0) (by repeat (first | exact hR | refine SR.i ?_ rfl | refine SR.a ?_ rfl))), by omega, by omega⟩
        rcases hq65 with ⟨rfl, hF65⟩ | ⟨rfl, hX65, hz65, hS65⟩
        · dsimp only [Option.toList, List.cons_append, List.nil_append, Nat.beq, gI_sI, gI_sL, gI_sA, gI_sM, gL_sI, gL_sL, gL_sA, gL_sM, aI_sI, aI_sL, aI_sA, aI_sM, aL_sI, aL_sL, aL_sA, aL_sM]
          refine ⟨fun h66 => absurd h66 (by decide), fun h66 => ?_⟩
          clear h66
          refine hB _ _ _ _ _ (fun m67 hm67 => ?_)
          dsimp only [ugo, uwp, ust, uct, rfd, Bdeclaration, Nat.beq, lv_args, rlk, rs1, rs2, rdl, rky, rcd, rno, rsw, Value.category, List.filter, List.take, List.drop, List.reverse, List.reverseAux, List.cons_append, List.nil_append, Option.toList, Int.toNat, Int.reduceToNat, if_pos, if_neg, reduceIte, ↓reduceIte, Nat.reduceAdd, Nat.reduceEqDiff, Nat.reduceBEq, beq_self_eq_true, Bool.not_true, Bool.not_false, Bool.and_true, Bool.and_false, Bool.true_and, Bool.false_and, gI_sI, gI_sL, gI_sA, gI_sM, gL_sI, gL_sL, gL_sA, gL_sM, aI_sI, aI_sL, aI_sA, aI_sM, aL_sI, aL_sL, aL_sA, aL_sM, Bdeclaration_0, Bdeclaration_11, Bdeclaration_18, Bdeclaration_20, Bdeclaration_31, Bdeclaration_36, Bdeclaration_53, Bdeclaration_55, Bdeclaration_68, Bdeclaration_73, Bdeclaration_95, Bdeclaration_97, Bdeclaration_110, Bdeclaration_114, Bdeclaration_119, Bdeclaration_124, Bdeclaration_147, Bdeclaration_154, Bdeclaration_156, Bdeclaration_179, Bdeclaration_183, Bdeclaration_184, oi_0, oi_1, oi_2, oi_21, oi_22, oi_61, Pu_emit]; try dsimp only
          unfold Qv_declaration
          try dsimp only
          refine Or.inl ⟨rfl, FlR.g hF65 ?_⟩
          rw [var_0 hc2, typ_y hty]
          exact (by repeat (first | with_reducible exact GpY.rf | with_reducible refine GpY.tr ?_ (gd_fo _) | with_reducible refine GpY.tr ?_ (gd_ef _) | with_reducible refine GpY.tr ?_ (gd_cf _) | with_reducible refine GpY.tr ?_ (gd_wt _) | with_reducible refine GpY.tr ?_ (gd_xp _) | with_reducible refine GpY.tr ?_ (gd_acc _) | with_reducible refine GpY.tr ?_ (gd_rai _) | with_reducible refine GpY.tr ?_ (gd_e _) | with_reducible refine GpY.tr ?_ (gd_o _) | with_reducible refine GpY.tr ?_ (gd_c _) | with_reducible refine GpY.tr ?_ (gd_op _) | with_reducible refine GpY.tr ?_ (gd_clp gd_e _ _) | with_reducible refine GpY.tr ?_ (gd_tl _) | with_reducible refine GpY.tr ?_ (gd_sf _ _ _) | with_reducible refine GpY.tr ?_ (gd_cl _) | with_reducible refine GpY.tr ?_ (gd_pc _) | with_reducible refine GpY.tr ?_ (gd_st _) | with_reducible refine GpY.tr ?_ (gd_rw _) | with_reducible refine GpY.tr ?_ (gd_typ _) | with_reducible refine GpY.tr ?_ (gd_dcl _) | with_reducible refine GpY.tr ?_ (gd_va2 _) | with_reducible refine GpY.tr ?_ (gd_cnd _) | with_reducible refine GpY.tr ?_ (gd_tr1 _) | with_reducible refine GpY.tr ?_ (gd_tr2 (fun _ => gd_rw) _) | with_reducible refine GpY.tr ?_ (gd_tr3 (fun _ => gd_rw) _) | with_reducible refine GpY.tr ?_ (gd_fo1 _) | with_reducible refine GpY.tr ?_ (gd_fo2 _) | with_reducible refine GpY.tr ?_ (gd_fo3 _) | with_reducible refine GpY.tr ?_ (gd_fex _) | with_reducible refine GpY.tr ?_ (pg_var.1) | with_reducible refine GpY.tr ?_ (pg_cas.1) | exact GpY.rf))
        · dsimp only [Option.toList, List.cons_append, List.nil_append, Nat.beq, gI_sI, gI_sL, gI_sA, gI_sM, gL_sI, gL_sL, gL_sA, gL_sM, aI_sI, aI_sL, aI_sA, aI_sM, aL_sI, aL_sL, aL_sA, aL_sM]
          have hR65 := SR.kr (e_ := 0) (by repeat (first | exact hR | refine SR.i ?_ rfl | refine SR.a ?_ rfl)) hX65 acc2
          have hg65 := FgR.kr (e_ := 0) (s := s) (n := n) (by repeat (first | exact hg | refine FgR.i ?_ rfl | refine FgR.a ?_ rfl)) (by repeat (first | exact hR | refine SR.i ?_ rfl | refine SR.a ?_ rfl)) hX65
          have hf65 := frR_kr hX65
          have q9_65 : gI τ65 49 = gI σ 49 := (hX65.2.2.1.1 49 rfl).trans rfl
          refine ⟨fun h68 => ?_, fun h68 => absurd h68 (by decide)⟩
          clear h68
          refine hB _ _ _ _ _ (fun m69 hm69 => ?_)
          dsimp only [ugo, uwp, ust, uct, rfd, Bdeclaration, Nat.beq, lv_args, rlk, rs1, rs2, rdl, rky, rcd, rno, rsw, Value.category, List.filter, List.take, List.drop, List.reverse, List.reverseAux, List.cons_append, List.nil_append, Option.toList, Int.toNat, Int.reduceToNat, if_pos, if_neg, reduceIte, ↓reduceIte, Nat.reduceAdd, Nat.reduceEqDiff, Nat.reduceBEq, beq_self_eq_true, Bool.not_true, Bool.not_false, Bool.and_true, Bool.and_false, Bool.true_and, Bool.false_and, gI_sI, gI_sL, gI_sA, gI_sM, gL_sI, gL_sL, gL_sA, gL_sM, aI_sI, aI_sL, aI_sA, aI_sM, aL_sI, aL_sL, aL_sA, aL_sM, Bdeclaration_0, Bdeclaration_11, Bdeclaration_18, Bdeclaration_20, Bdeclaration_31, Bdeclaration_36, Bdeclaration_53, Bdeclaration_55, Bdeclaration_68, Bdeclaration_73, Bdeclaration_95, Bdeclaration_97, Bdeclaration_110, Bdeclaration_114, Bdeclaration_119, Bdeclaration_124, Bdeclaration_147, Bdeclaration_154, Bdeclaration_156, Bdeclaration_179, Bdeclaration_183, Bdeclaration_184, oi_0, oi_1, oi_2, oi_21, oi_22, oi_61, Pu_emit]; try dsimp only
          intro p70
          refine ⟨fun h71 => ?_, fun h71 => ?_⟩
          · refine hB _ _ _ _ _ (fun m72 hm72 => ?_)
            dsimp only [ugo, uwp, ust, uct, rfd, Bdeclaration, Nat.beq, lv_args, rlk, rs1, rs2, rdl, rky, rcd, rno, rsw, Value.category, List.filter, List.take, List.drop, List.reverse, List.reverseAux, List.cons_append, List.nil_append, Option.toList, Int.toNat, Int.reduceToNat, if_pos, if_neg, reduceIte, ↓reduceIte, Nat.reduceAdd, Nat.reduceEqDiff, Nat.reduceBEq, beq_self_eq_true, Bool.not_true, Bool.not_false, Bool.and_true, Bool.and_false, Bool.true_and, Bool.false_and, gI_sI, gI_sL, gI_sA, gI_sM, gL_sI, gL_sL, gL_sA, gL_sM, aI_sI, aI_sL, aI_sA, aI_sM, aL_sI, aL_sL, aL_sA, aL_sM, Bdeclaration_0, Bdeclaration_11, Bdeclaration_18, Bdeclaration_20, Bdeclaration_31, Bdeclaration_36, Bdeclaration_53, Bdeclaration_55, Bdeclaration_68, Bdeclaration_73, Bdeclaration_95, Bdeclaration_97, Bdeclaration_110, Bdeclaration_114, Bdeclaration_119, Bdeclaration_124, Bdeclaration_147, Bdeclaration_154, Bdeclaration_156, Bdeclaration_179, Bdeclaration_183, Bdeclaration_184, oi_0, oi_1, oi_2, oi_21, oi_22, oi_61, Pu_emit]; try dsimp only
            have hcn := (SR.sh hR65).ki.2.2.1.mp (by exact h71)
            have hR_ := hR65
            refine ⟨trivial, fun w73 τ73 hq73 => ?_⟩
            have hV73 := hq73 (accY s) n ⟨SR.sh (e := 0) (n := n) (by repeat (first | exact hR65 | refine SR.i ?_ rfl | refine SR.a ?_ rfl)), SR.dp (e := 0) (s := (accY s)) (by repeat (first | exact hR65 | refine SR.i ?_ rfl | refine SR.a ?_ rfl)), by omega, SR.vv (e := 0) (n := n) (by repeat (first | exact hR65 | refine SR.i ?_ rfl | refine SR.a ?_ rfl))⟩
            rcases hV73 with ⟨rfl, hF73⟩ | ⟨rfl, hSh73, hz73, hl73, hva73⟩
            · dsimp only [Option.toList, List.cons_append, List.nil_append, Nat.beq, gI_sI, gI_sL, gI_sA, gI_sM, gL_sI, gL_sL, gL_sA, gL_sM, aI_sI, aI_sL, aI_sA, aI_sM, aL_sI, aL_sL, aL_sA, aL_sM]
              have hF73 : FlR τ73 (dclY (aI σ 6 (gI σ 14).toNatClampNeg).toInt 0 1 (accY s)) := hF73
              refine ⟨fun h74 => absurd h74 (by decide), fun h74 => ?_⟩
              clear h74
              refine hB _ _ _ _ _ (fun m75 hm75 => ?_)
              dsimp only [ugo, uwp, ust, uct, rfd, Bdeclaration, Nat.beq, lv_args, rlk, rs1, rs2, rdl, rky, rcd, rno, rsw, Value.category, List.filter, List.take, List.drop, List.reverse, List.reverseAux, List.cons_append, List.nil_append, Option.toList, Int.toNat, Int.reduceToNat, if_pos, if_neg, reduceIte, ↓reduceIte, Nat.reduceAdd, Nat.reduceEqDiff, Nat.reduceBEq, beq_self_eq_true, Bool.not_true, Bool.not_false, Bool.and_true, Bool.and_false, Bool.true_and, Bool.false_and, gI_sI, gI_sL, gI_sA, gI_sM, gL_sI, gL_sL, gL_sA, gL_sM, aI_sI, aI_sL, aI_sA, aI_sM, aL_sI, aL_sL, aL_sA, aL_sM, Bdeclaration_0, Bdeclaration_11, Bdeclaration_18, Bdeclaration_20, Bdeclaration_31, Bdeclaration_36, Bdeclaration_53, Bdeclaration_55, Bdeclaration_68, Bdeclaration_73, Bdeclaration_95, Bdeclaration_97, Bdeclaration_110, Bdeclaration_114, Bdeclaration_119, Bdeclaration_124, Bdeclaration_147, Bdeclaration_154, Bdeclaration_156, Bdeclaration_179, Bdeclaration_183, Bdeclaration_184, oi_0, oi_1, oi_2, oi_21, oi_22, oi_61, Pu_emit]; try dsimp only
              unfold Qv_declaration
              try dsimp only
              refine Or.inl ⟨rfl, FlR.g hF73 ?_⟩
              rw [var_0 hc2, typ_y hty, htv]
              exact (by repeat (first | with_reducible exact GpY.rf | with_reducible refine GpY.tr ?_ (gd_fo _) | with_reducible refine GpY.tr ?_ (gd_ef _) | with_reducible refine GpY.tr ?_ (gd_cf _) | with_reducible refine GpY.tr ?_ (gd_wt _) | with_reducible refine GpY.tr ?_ (gd_xp _) | with_reducible refine GpY.tr ?_ (gd_acc _) | with_reducible refine GpY.tr ?_ (gd_rai _) | with_reducible refine GpY.tr ?_ (gd_e _) | with_reducible refine GpY.tr ?_ (gd_o _) | with_reducible refine GpY.tr ?_ (gd_c _) | with_reducible refine GpY.tr ?_ (gd_op _) | with_reducible refine GpY.tr ?_ (gd_clp gd_e _ _) | with_reducible refine GpY.tr ?_ (gd_tl _) | with_reducible refine GpY.tr ?_ (gd_sf _ _ _) | with_reducible refine GpY.tr ?_ (gd_cl _) | with_reducible refine GpY.tr ?_ (gd_pc _) | with_reducible refine GpY.tr ?_ (gd_st _) | with_reducible refine GpY.tr ?_ (gd_rw _) | with_reducible refine GpY.tr ?_ (gd_typ _) | with_reducible refine GpY.tr ?_ (gd_dcl _) | with_reducible refine GpY.tr ?_ (gd_va2 _) | with_reducible refine GpY.tr ?_ (gd_cnd _) | with_reducible refine GpY.tr ?_ (gd_tr1 _) | with_reducible refine GpY.tr ?_ (gd_tr2 (fun _ => gd_rw) _) | with_reducible refine GpY.tr ?_ (gd_tr3 (fun _ => gd_rw) _) | with_reducible refine GpY.tr ?_ (gd_fo1 _) | with_reducible refine GpY.tr ?_ (gd_fo2 _) | with_reducible refine GpY.tr ?_ (gd_fo3 _) | with_reducible refine GpY.tr ?_ (gd_fex _) | with_reducible refine GpY.tr ?_ (pg_var.1) | with_reducible refine GpY.tr ?_ (pg_cas.1) | exact GpY.rf))
            · dsimp only [Option.toList, List.cons_append, List.nil_append, Nat.beq, gI_sI, gI_sL, gI_sA, gI_sM, gL_sI, gL_sL, gL_sA, gL_sM, aI_sI, aI_sL, aI_sA, aI_sM, aL_sI, aL_sL, aL_sA, aL_sM]
              obtain ⟨hR73, hg73, hf73⟩ := SR.va (e := 0) (s := (accY s)) (n := n) (by repeat (first | exact hR65 | refine SR.i ?_ rfl | refine SR.a ?_ rfl)) (by (try simp only [frR_i, frR_a, ne_eq, Nat.reduceEqDiff, not_false_eq_true, hf65]); exact hne) hva73 hSh73 hz73
              have hg73 := hg73 (by repeat (first | exact hg65 | refine FgR.i ?_ rfl | refine FgR.a ?_ rfl))
              have hR73 : SRx 0 τ73 (accY (vadY (aI σ 6 (gI σ 14).toNatClampNeg).toInt 0 (accY s))) n := hR73
              have q9_73 : gI τ73 49 = gI σ 49 := (hva73.1 49 (by decide) (by decide)).trans q9_65
              have hdc := dcl_y (ty := (aI σ 6 (gI σ 14).toNatClampNeg).toInt) (f := 0) (SR.z hR_) hcn hl73
              refine ⟨fun h76 => ?_, fun h76 => absurd h76 (by decide)⟩
              clear h76
              refine hB _ _ _ _ _ (fun m77 hm77 => ?_)
              dsimp only [ugo, uwp, ust, uct, rfd, Bdeclaration, Nat.beq, lv_args, rlk, rs1, rs2, rdl, rky, rcd, rno, rsw, Value.category, List.filter, List.take, List.drop, List.reverse, List.reverseAux, List.cons_append, List.nil_append, Option.toList, Int.toNat, Int.reduceToNat, if_pos, if_neg, reduceIte, ↓reduceIte, Nat.reduceAdd, Nat.reduceEqDiff, Nat.reduceBEq, beq_self_eq_true, Bool.not_true, Bool.not_false, Bool.and_true, Bool.and_false, Bool.true_and, Bool.false_and, gI_sI, gI_sL, gI_sA, gI_sM, gL_sI, gL_sL, gL_sA, gL_sM, aI_sI, aI_sL, aI_sA, aI_sM, aL_sI, aL_sL, aL_sA, aL_sM, Bdeclaration_0, Bdeclaration_11, Bdeclaration_18, Bdeclaration_20, Bdeclaration_31, Bdeclaration_36, Bdeclaration_53, Bdeclaration_55, Bdeclaration_68, Bdeclaration_73, Bdeclaration_95, Bdeclaration_97, Bdeclaration_110, Bdeclaration_114, Bdeclaration_119, Bdeclaration_124, Bdeclaration_147, Bdeclaration_154, Bdeclaration_156, Bdeclaration_179, Bdeclaration_183, Bdeclaration_184, oi_0, oi_1, oi_2, oi_21, oi_22, oi_61, Pu_emit]; try dsimp only
              refine ⟨trivial, fun w78 τ78 hq78 => ?_⟩
              obtain ⟨rfl, b78, rfl, hb78⟩ := hq78 trivial
              have he78 := (XrR.s (SR.x (e_ := 0) (by repeat (first | exact hR73 | refine SR.i ?_ rfl | refine SR.a ?_ rfl)))).sg (x := 61) (d := 8) (by decide)
              rcases hb78 with ⟨rfl, hk78⟩ | ⟨rfl, hk78⟩
              · dsimp only [Option.toList, List.cons_append, List.nil_append, Nat.beq, gI_sI, gI_sL, gI_sA, gI_sM, gL_sI, gL_sL, gL_sA, gL_sM, aI_sI, aI_sL, aI_sA, aI_sM, aL_sI, aL_sL, aL_sA, aL_sM]
                have hc78 : codY (accY (vadY (aI σ 6 (gI σ 14).toNatClampNeg).toInt 0 (accY s))) = 8 := he78.mp hk78
                refine ⟨fun h79 => ?_, fun h79 => absurd h79 (by decide)⟩
                clear h79
                refine hB _ _ _ _ _ (fun m80 hm80 => ?_)
                dsimp only [ugo, uwp, ust, uct, rfd, Bdeclaration, Nat.beq, lv_args, rlk, rs1, rs2, rdl, rky, rcd, rno, rsw, Value.category, List.filter, List.take, List.drop, List.reverse, List.reverseAux, List.cons_append, List.nil_append, Option.toList, Int.toNat, Int.reduceToNat, if_pos, if_neg, reduceIte, ↓reduceIte, Nat.reduceAdd, Nat.reduceEqDiff, Nat.reduceBEq, beq_self_eq_true, Bool.not_true, Bool.not_false, Bool.and_true, Bool.and_false, Bool.true_and, Bool.false_and, gI_sI, gI_sL, gI_sA, gI_sM, gL_sI, gL_sL, gL_sA, gL_sM, aI_sI, aI_sL, aI_sA, aI_sM, aL_sI, aL_sL, aL_sA, aL_sM, Bdeclaration_0, Bdeclaration_11, Bdeclaration_18, Bdeclaration_20, Bdeclaration_31, Bdeclaration_36, Bdeclaration_53, Bdeclaration_55, Bdeclaration_68, Bdeclaration_73, Bdeclaration_95, Bdeclaration_97, Bdeclaration_110, Bdeclaration_114, Bdeclaration_119, Bdeclaration_124, Bdeclaration_147, Bdeclaration_154, Bdeclaration_156, Bdeclaration_179, Bdeclaration_183, Bdeclaration_184, oi_0, oi_1, oi_2, oi_21, oi_22, oi_61, Pu_emit]; try dsimp only
                refine ⟨fun h81 => absurd h81 (by decide), fun h81 => ?_⟩
                clear h81
                refine hB _ _ _ _ _ (fun m82 hm82 => ?_)
                dsimp only [ugo, uwp, ust, uct, rfd, Bdeclaration, Nat.beq, lv_args, rlk, rs1, rs2, rdl, rky, rcd, rno, rsw, Value.category, List.filter, List.take, List.drop, List.reverse, List.reverseAux, List.cons_append, List.nil_append, Option.toList, Int.toNat, Int.reduceToNat, if_pos, if_neg, reduceIte, ↓reduceIte, Nat.reduceAdd, Nat.reduceEqDiff, Nat.reduceBEq, beq_self_eq_true, Bool.not_true, Bool.not_false, Bool.and_true, Bool.and_false, Bool.true_and, Bool.false_and, gI_sI, gI_sL, gI_sA, gI_sM, gL_sI, gL_sL, gL_sA, gL_sM, aI_sI, aI_sL, aI_sA, aI_sM, aL_sI, aL_sL, aL_sA, aL_sM, Bdeclaration_0, Bdeclaration_11, Bdeclaration_18, Bdeclaration_20, Bdeclaration_31, Bdeclaration_36, Bdeclaration_53, Bdeclaration_55, Bdeclaration_68, Bdeclaration_73, Bdeclaration_95, Bdeclaration_97, Bdeclaration_110, Bdeclaration_114, Bdeclaration_119, Bdeclaration_124, Bdeclaration_147, Bdeclaration_154, Bdeclaration_156, Bdeclaration_179, Bdeclaration_183, Bdeclaration_184, oi_0, oi_1, oi_2, oi_21, oi_22, oi_61, Pu_emit]; try dsimp only
                refine ⟨trivial, fun w83 τ83 hq83 => ?_⟩
                obtain ⟨rfl, hE83⟩ := hq83
                have hR83 := SR.em (e_ := 0) (s := (accY (vadY (aI σ 6 (gI σ 14).toNatClampNeg).toInt 0 (accY s)))) (n := n) (by repeat (first | exact hR73 | refine SR.i ?_ rfl | refine SR.a ?_ rfl)) hE83
                have hg83 := FgR.em (e_ := 0) (by repeat (first | exact hg73 | refine FgR.i ?_ rfl | refine FgR.a ?_ rfl)) (s := (accY (vadY (aI σ 6 (gI σ 14).toNatClampNeg).toInt 0 (accY s)))) (n := n) (by repeat (first | exact hR73 | refine SR.i ?_ rfl | refine SR.a ?_ rfl)) hE83
                have hf83 := frR_em hE83
                dsimp only [Option.toList, List.cons_append, List.nil_append, Nat.beq, gI_sI, gI_sL, gI_sA, gI_sM, gL_sI, gL_sL, gL_sA, gL_sM, aI_sI, aI_sL, aI_sA, aI_sM, aL_sI, aL_sL, aL_sA, aL_sM]
                have q9_83 : gI τ83 49 = gI σ 49 := (hE83.1 49 (by decide)).trans q9_73
                intro p84
                refine ⟨trivial, fun w85 τ85 hq85 => ?_⟩
                have hq85 := hq85 _ (accY (vadY (aI σ 6 (gI σ 14).toNatClampNeg).toInt 0 (accY s))) n ⟨(SR.x (e_ := 0) (by repeat (first | exact hR83 | refine SR.i ?_ rfl | refine SR.a ?_ rfl))), by omega, by omega⟩
                rcases hq85 with ⟨rfl, hF85⟩ | ⟨rfl, hX85, hz85, hS85⟩
                · dsimp only [Option.toList, List.cons_append, List.nil_append, Nat.beq, gI_sI, gI_sL, gI_sA, gI_sM, gL_sI, gL_sL, gL_sA, gL_sM, aI_sI, aI_sL, aI_sA, aI_sM, aL_sI, aL_sL, aL_sA, aL_sM]
                  refine ⟨fun h86 => ?_, fun h86 => absurd h86 (by decide)⟩
                  clear h86
                  refine hB _ _ _ _ _ (fun m87 hm87 => ?_)
                  dsimp only [ugo, uwp, ust, uct, rfd, Bdeclaration, Nat.beq, lv_args, rlk, rs1, rs2, rdl, rky, rcd, rno, rsw, Value.category, List.filter, List.take, List.drop, List.reverse, List.reverseAux, List.cons_append, List.nil_append, Option.toList, Int.toNat, Int.reduceToNat, if_pos, if_neg, reduceIte, ↓reduceIte, Nat.reduceAdd, Nat.reduceEqDiff, Nat.reduceBEq, beq_self_eq_true, Bool.not_true, Bool.not_false, Bool.and_true, Bool.and_false, Bool.true_and, Bool.false_and, gI_sI, gI_sL, gI_sA, gI_sM, gL_sI, gL_sL, gL_sA, gL_sM, aI_sI, aI_sL, aI_sA, aI_sM, aL_sI, aL_sL, aL_sA, aL_sM, Bdeclaration_0, Bdeclaration_11, Bdeclaration_18, Bdeclaration_20, Bdeclaration_31, Bdeclaration_36, Bdeclaration_53, Bdeclaration_55, Bdeclaration_68, Bdeclaration_73, Bdeclaration_95, Bdeclaration_97, Bdeclaration_110, Bdeclaration_114, Bdeclaration_119, Bdeclaration_124, Bdeclaration_147, Bdeclaration_154, Bdeclaration_156, Bdeclaration_179, Bdeclaration_183, Bdeclaration_184, oi_0, oi_1, oi_2, oi_21, oi_22, oi_61, Pu_emit]; try dsimp only
                  unfold Qv_declaration
                  try dsimp only
                  refine Or.inl ⟨rfl, FlR.g hF85 ?_⟩
                  rw [var_0 hc2, typ_y hty, htv, hdc, va2_y hc78]
                  exact (by repeat (first | with_reducible exact GpY.rf | with_reducible refine GpY.tr ?_ (gd_fo _) | with_reducible refine GpY.tr ?_ (gd_ef _) | with_reducible refine GpY.tr ?_ (gd_cf _) | with_reducible refine GpY.tr ?_ (gd_wt _) | with_reducible refine GpY.tr ?_ (gd_xp _) | with_reducible refine GpY.tr ?_ (gd_acc _) | with_reducible refine GpY.tr ?_ (gd_rai _) | with_reducible refine GpY.tr ?_ (gd_e _) | with_reducible refine GpY.tr ?_ (gd_o _) | with_reducible refine GpY.tr ?_ (gd_c _) | with_reducible refine GpY.tr ?_ (gd_op _) | with_reducible refine GpY.tr ?_ (gd_clp gd_e _ _) | with_reducible refine GpY.tr ?_ (gd_tl _) | with_reducible refine GpY.tr ?_ (gd_sf _ _ _) | with_reducible refine GpY.tr ?_ (gd_cl _) | with_reducible refine GpY.tr ?_ (gd_pc _) | with_reducible refine GpY.tr ?_ (gd_st _) | with_reducible refine GpY.tr ?_ (gd_rw _) | with_reducible refine GpY.tr ?_ (gd_typ _) | with_reducible refine GpY.tr ?_ (gd_dcl _) | with_reducible refine GpY.tr ?_ (gd_va2 _) | with_reducible refine GpY.tr ?_ (gd_cnd _) | with_reducible refine GpY.tr ?_ (gd_tr1 _) | with_reducible refine GpY.tr ?_ (gd_tr2 (fun _ => gd_rw) _) | with_reducible refine GpY.tr ?_ (gd_tr3 (fun _ => gd_rw) _) | with_reducible refine GpY.tr ?_ (gd_fo1 _) | with_reducible refine GpY.tr ?_ (gd_fo2 _) | with_reducible refine GpY.tr ?_ (gd_fo3 _) | with_reducible refine GpY.tr ?_ (gd_fex _) | with_reducible refine GpY.tr ?_ (pg_var.1) | with_reducible refine GpY.tr ?_ (pg_cas.1) | exact GpY.rf))
                · dsimp only [Option.toList, List.cons_append, List.nil_append, Nat.beq, gI_sI, gI_sL, gI_sA, gI_sM, gL_sI, gL_sL, gL_sA, gL_sM, aI_sI, aI_sL, aI_sA, aI_sM, aL_sI, aL_sL, aL_sA, aL_sM]
                  have hR85 := SR.kr (e_ := 0) (by repeat (first | exact hR83 | refine SR.i ?_ rfl | refine SR.a ?_ rfl)) hX85 acc2
                  have hg85 := FgR.kr (e_ := 0) (s := (accY (vadY (aI σ 6 (gI σ 14).toNatClampNeg).toInt 0 (accY s)))) (n := n) (by repeat (first | exact hg83 | refine FgR.i ?_ rfl | refine FgR.a ?_ rfl)) (by repeat (first | exact hR83 | refine SR.i ?_ rfl | refine SR.a ?_ rfl)) hX85
                  have hf85 := frR_kr hX85
                  have q9_85 : gI τ85 49 = gI σ 49 := (hX85.2.2.1.1 49 rfl).trans q9_83
                  refine ⟨fun h88 => absurd h88 (by decide), fun h88 => ?_⟩
                  clear h88
                  refine hB _ _ _ _ _ (fun m89 hm89 => ?_)
                  dsimp only [ugo, uwp, ust, uct, rfd, Bdeclaration, Nat.beq, lv_args, rlk, rs1, rs2, rdl, rky, rcd, rno, rsw, Value.category, List.filter, List.take, List.drop, List.reverse, List.reverseAux, List.cons_append, List.nil_append, Option.toList, Int.toNat, Int.reduceToNat, if_pos, if_neg, reduceIte, ↓reduceIte, Nat.reduceAdd, Nat.reduceEqDiff, Nat.reduceBEq, beq_self_eq_true, Bool.not_true, Bool.not_false, Bool.and_true, Bool.and_false, Bool.true_and, Bool.false_and, gI_sI, gI_sL, gI_sA, gI_sM, gL_sI, gL_sL, gL_sA, gL_sM, aI_sI, aI_sL, aI_sA, aI_sM, aL_sI, aL_sL, aL_sA, aL_sM, Bdeclaration_0, Bdeclaration_11, Bdeclaration_18, Bdeclaration_20, Bdeclaration_31, Bdeclaration_36, Bdeclaration_53, Bdeclaration_55, Bdeclaration_68, Bdeclaration_73, Bdeclaration_95, Bdeclaration_97, Bdeclaration_110, Bdeclaration_114, Bdeclaration_119, Bdeclaration_124, Bdeclaration_147, Bdeclaration_154, Bdeclaration_156, Bdeclaration_179, Bdeclaration_183, Bdeclaration_184, oi_0, oi_1, oi_2, oi_21, oi_22, oi_61, Pu_emit]; try dsimp only
                  refine ⟨trivial, fun w90 τ90 hq90 => ?_⟩
                  have hq90 := hq90 _ (accY (accY (vadY (aI σ 6 (gI σ 14).toNatClampNeg).toInt 0 (accY s)))) n ⟨(SR.x (e_ := 0) (by repeat (first | exact hR85 | refine SR.i ?_ rfl | refine SR.a ?_ rfl))), by omega⟩
                  rcases hq90 with ⟨rfl, hF90⟩ | ⟨rfl, hX90, hs2_90⟩
                  · dsimp only [Option.toList, List.cons_append, List.nil_append, Nat.beq, gI_sI, gI_sL, gI_sA, gI_sM, gL_sI, gL_sL, gL_sA, gL_sM, aI_sI, aI_sL, aI_sA, aI_sM, aL_sI, aL_sL, aL_sA, aL_sM]
                    refine ⟨fun h91 => absurd h91 (by decide), fun h91 => ?_⟩
                    clear h91
                    refine hB _ _ _ _ _ (fun m92 hm92 => ?_)
                    dsimp only [ugo, uwp, ust, uct, rfd, Bdeclaration, Nat.beq, lv_args, rlk, rs1, rs2, rdl, rky, rcd, rno, rsw, Value.category, List.filter, List.take, List.drop, List.reverse, List.reverseAux, List.cons_append, List.nil_append, Option.toList, Int.toNat, Int.reduceToNat, if_pos, if_neg, reduceIte, ↓reduceIte, Nat.reduceAdd, Nat.reduceEqDiff, Nat.reduceBEq, beq_self_eq_true, Bool.not_true, Bool.not_false, Bool.and_true, Bool.and_false, Bool.true_and, Bool.false_and, gI_sI, gI_sL, gI_sA, gI_sM, gL_sI, gL_sL, gL_sA, gL_sM, aI_sI, aI_sL, aI_sA, aI_sM, aL_sI, aL_sL, aL_sA, aL_sM, Bdeclaration_0, Bdeclaration_11, Bdeclaration_18, Bdeclaration_20, Bdeclaration_31, Bdeclaration_36, Bdeclaration_53, Bdeclaration_55, Bdeclaration_68, Bdeclaration_73, Bdeclaration_95, Bdeclaration_97, Bdeclaration_110, Bdeclaration_114, Bdeclaration_119, Bdeclaration_124, Bdeclaration_147, Bdeclaration_154, Bdeclaration_156, Bdeclaration_179, Bdeclaration_183, Bdeclaration_184, oi_0, oi_1, oi_2, oi_21, oi_22, oi_61, Pu_emit]; try dsimp only
                    unfold Qv_declaration
                    try dsimp only
                    refine Or.inl ⟨rfl, FlR.g hF90 ?_⟩
                    rw [var_0 hc2, typ_y hty, htv, hdc, va2_y hc78]
                    exact (by repeat (first | with_reducible exact GpY.rf | with_reducible refine GpY.tr ?_ (gd_fo _) | with_reducible refine GpY.tr ?_ (gd_ef _) | with_reducible refine GpY.tr ?_ (gd_cf _) | with_reducible refine GpY.tr ?_ (gd_wt _) | with_reducible refine GpY.tr ?_ (gd_xp _) | with_reducible refine GpY.tr ?_ (gd_acc _) | with_reducible refine GpY.tr ?_ (gd_rai _) | with_reducible refine GpY.tr ?_ (gd_e _) | with_reducible refine GpY.tr ?_ (gd_o _) | with_reducible refine GpY.tr ?_ (gd_c _) | with_reducible refine GpY.tr ?_ (gd_op _) | with_reducible refine GpY.tr ?_ (gd_clp gd_e _ _) | with_reducible refine GpY.tr ?_ (gd_tl _) | with_reducible refine GpY.tr ?_ (gd_sf _ _ _) | with_reducible refine GpY.tr ?_ (gd_cl _) | with_reducible refine GpY.tr ?_ (gd_pc _) | with_reducible refine GpY.tr ?_ (gd_st _) | with_reducible refine GpY.tr ?_ (gd_rw _) | with_reducible refine GpY.tr ?_ (gd_typ _) | with_reducible refine GpY.tr ?_ (gd_dcl _) | with_reducible refine GpY.tr ?_ (gd_va2 _) | with_reducible refine GpY.tr ?_ (gd_cnd _) | with_reducible refine GpY.tr ?_ (gd_tr1 _) | with_reducible refine GpY.tr ?_ (gd_tr2 (fun _ => gd_rw) _) | with_reducible refine GpY.tr ?_ (gd_tr3 (fun _ => gd_rw) _) | with_reducible refine GpY.tr ?_ (gd_fo1 _) | with_reducible refine GpY.tr ?_ (gd_fo2 _) | with_reducible refine GpY.tr ?_ (gd_fo3 _) | with_reducible refine GpY.tr ?_ (gd_fex _) | with_reducible refine GpY.tr ?_ (pg_var.1) | with_reducible refine GpY.tr ?_ (pg_cas.1) | exact GpY.rf))
                  · dsimp only [Option.toList, List.cons_append, List.nil_append, Nat.beq, gI_sI, gI_sL, gI_sA, gI_sM, gL_sI, gL_sL, gL_sA, gL_sM, aI_sI, aI_sL, aI_sA, aI_sM, aL_sI, aL_sL, aL_sA, aL_sM]
                    have hR90 := SR.kr (e_ := 0) (by repeat (first | exact hR85 | refine SR.i ?_ rfl | refine SR.a ?_ rfl)) hX90 hs2_90
                    have hg90 := FgR.kr (e_ := 0) (s := (accY (accY (vadY (aI σ 6 (gI σ 14).toNatClampNeg).toInt 0 (accY s))))) (n := n) (by repeat (first | exact hg85 | refine FgR.i ?_ rfl | refine FgR.a ?_ rfl)) (by repeat (first | exact hR85 | refine SR.i ?_ rfl | refine SR.a ?_ rfl)) hX90
                    have hf90 := frR_kr hX90
                    have q9_90 : gI τ90 49 = gI σ 49 := (hX90.2.2.1.1 49 rfl).trans q9_85
                    refine ⟨fun h93 => ?_, fun h93 => absurd h93 (by decide)⟩
                    clear h93
                    refine hB _ _ _ _ _ (fun m94 hm94 => ?_)
                    dsimp only [ugo, uwp, ust, uct, rfd, Bdeclaration, Nat.beq, lv_args, rlk, rs1, rs2, rdl, rky, rcd, rno, rsw, Value.category, List.filter, List.take, List.drop, List.reverse, List.reverseAux, List.cons_append, List.nil_append, Option.toList, Int.toNat, Int.reduceToNat, if_pos, if_neg, reduceIte, ↓reduceIte, Nat.reduceAdd, Nat.reduceEqDiff, Nat.reduceBEq, beq_self_eq_true, Bool.not_true, Bool.not_false, Bool.and_true, Bool.and_false, Bool.true_and, Bool.false_and, gI_sI, gI_sL, gI_sA, gI_sM, gL_sI, gL_sL, gL_sA, gL_sM, aI_sI, aI_sL, aI_sA, aI_sM, aL_sI, aL_sL, aL_sA, aL_sM, Bdeclaration_0, Bdeclaration_11, Bdeclaration_18, Bdeclaration_20, Bdeclaration_31, Bdeclaration_36, Bdeclaration_53, Bdeclaration_55, Bdeclaration_68, Bdeclaration_73, Bdeclaration_95, Bdeclaration_97, Bdeclaration_110, Bdeclaration_114, Bdeclaration_119, Bdeclaration_124, Bdeclaration_147, Bdeclaration_154, Bdeclaration_156, Bdeclaration_179, Bdeclaration_183, Bdeclaration_184, oi_0, oi_1, oi_2, oi_21, oi_22, oi_61, Pu_emit]; try dsimp only
                    refine ⟨trivial, fun w95 τ95 hq95 => ?_⟩
                    obtain ⟨rfl, hE95⟩ := hq95
                    have hR95 := SR.em (e_ := 0) (s := (eY n (accY (accY (vadY (aI σ 6 (gI σ 14).toNatClampNeg).toInt 0 (accY s)))))) (n := n) (by repeat (first | exact hR90 | refine SR.i ?_ rfl | refine SR.a ?_ rfl)) hE95
                    have hg95 := FgR.em (e_ := 0) (by repeat (first | exact hg90 | refine FgR.i ?_ rfl | refine FgR.a ?_ rfl)) (s := (eY n (accY (accY (vadY (aI σ 6 (gI σ 14).toNatClampNeg).toInt 0 (accY s)))))) (n := n) (by repeat (first | exact hR90 | refine SR.i ?_ rfl | refine SR.a ?_ rfl)) hE95
                    have hf95 := frR_em hE95
                    dsimp only [Option.toList, List.cons_append, List.nil_append, Nat.beq, gI_sI, gI_sL, gI_sA, gI_sM, gL_sI, gL_sL, gL_sA, gL_sM, aI_sI, aI_sL, aI_sA, aI_sM, aL_sI, aL_sL, aL_sA, aL_sM]
                    have q9_95 : gI τ95 49 = gI σ 49 := (hE95.1 49 (by decide)).trans q9_90
                    refine ⟨fun h96 => absurd h96 (by decide), fun h96 => ?_⟩
                    clear h96
                    refine hB _ _ _ _ _ (fun m97 hm97 => ?_)
                    dsimp only [ugo, uwp, ust, uct, rfd, Bdeclaration, Nat.beq, lv_args, rlk, rs1, rs2, rdl, rky, rcd, rno, rsw, Value.category, List.filter, List.take, List.drop, List.reverse, List.reverseAux, List.cons_append, List.nil_append, Option.toList, Int.toNat, Int.reduceToNat, if_pos, if_neg, reduceIte, ↓reduceIte, Nat.reduceAdd, Nat.reduceEqDiff, Nat.reduceBEq, beq_self_eq_true, Bool.not_true, Bool.not_false, Bool.and_true, Bool.and_false, Bool.true_and, Bool.false_and, gI_sI, gI_sL, gI_sA, gI_sM, gL_sI, gL_sL, gL_sA, gL_sM, aI_sI, aI_sL, aI_sA, aI_sM, aL_sI, aL_sL, aL_sA, aL_sM, Bdeclaration_0, Bdeclaration_11, Bdeclaration_18, Bdeclaration_20, Bdeclaration_31, Bdeclaration_36, Bdeclaration_53, Bdeclaration_55, Bdeclaration_68, Bdeclaration_73, Bdeclaration_95, Bdeclaration_97, Bdeclaration_110, Bdeclaration_114, Bdeclaration_119, Bdeclaration_124, Bdeclaration_147, Bdeclaration_154, Bdeclaration_156, Bdeclaration_179, Bdeclaration_183, Bdeclaration_184, oi_0, oi_1, oi_2, oi_21, oi_22, oi_61, Pu_emit]; try dsimp only
                    refine hB _ _ _ _ _ (fun m98 hm98 => ?_)
                    dsimp only [ugo, uwp, ust, uct, rfd, Bdeclaration, Nat.beq, lv_args, rlk, rs1, rs2, rdl, rky, rcd, rno, rsw, Value.category, List.filter, List.take, List.drop, List.reverse, List.reverseAux, List.cons_append, List.nil_append, Option.toList, Int.toNat, Int.reduceToNat, if_pos, if_neg, reduceIte, ↓reduceIte, Nat.reduceAdd, Nat.reduceEqDiff, Nat.reduceBEq, beq_self_eq_true, Bool.not_true, Bool.not_false, Bool.and_true, Bool.and_false, Bool.true_and, Bool.false_and, gI_sI, gI_sL, gI_sA, gI_sM, gL_sI, gL_sL, gL_sA, gL_sM, aI_sI, aI_sL, aI_sA, aI_sM, aL_sI, aL_sL, aL_sA, aL_sM, Bdeclaration_0, Bdeclaration_11, Bdeclaration_18, Bdeclaration_20, Bdeclaration_31, Bdeclaration_36, Bdeclaration_53, Bdeclaration_55, Bdeclaration_68, Bdeclaration_73, Bdeclaration_95, Bdeclaration_97, Bdeclaration_110, Bdeclaration_114, Bdeclaration_119, Bdeclaration_124, Bdeclaration_147, Bdeclaration_154, Bdeclaration_156, Bdeclaration_179, Bdeclaration_183, Bdeclaration_184, oi_0, oi_1, oi_2, oi_21, oi_22, oi_61, Pu_emit]; try dsimp only
                    intro p99
                    unfold Qv_declaration
                    try dsimp only
                    refine Or.inr ⟨rfl, ?_⟩
                    rw [var_0 hc2, typ_y hty, htv, hdc, va2_y hc78]
                    exact ⟨(by repeat (first | exact hR95 | refine SR.i ?_ rfl | refine SR.a ?_ rfl)), (by repeat (first | exact hg95 | refine FgR.i ?_ rfl | refine FgR.a ?_ rfl)), (by simp only [frR_i, frR_a, ne_eq, Nat.reduceEqDiff, not_false_eq_true, hf95, hf90, hf85, hf83, hf73, hf65]), q9_95⟩
              · dsimp only [Option.toList, List.cons_append, List.nil_append, Nat.beq, gI_sI, gI_sL, gI_sA, gI_sM, gL_sI, gL_sL, gL_sA, gL_sM, aI_sI, aI_sL, aI_sA, aI_sM, aL_sI, aL_sL, aL_sA, aL_sM]
                have hc78 : ¬ codY (accY (vadY (aI σ 6 (gI σ 14).toNatClampNeg).toInt 0 (accY s))) = 8 := fun q => hk78 (he78.mpr q)
                refine ⟨fun h100 => absurd h100 (by decide), fun h100 => ?_⟩
                clear h100
                refine hB _ _ _ _ _ (fun m101 hm101 => ?_)
                dsimp only [ugo, uwp, ust, uct, rfd, Bdeclaration, Nat.beq, lv_args, rlk, rs1, rs2, rdl, rky, rcd, rno, rsw, Value.category, List.filter, List.take, List.drop, List.reverse, List.reverseAux, List.cons_append, List.nil_append, Option.toList, Int.toNat, Int.reduceToNat, if_pos, if_neg, reduceIte, ↓reduceIte, Nat.reduceAdd, Nat.reduceEqDiff, Nat.reduceBEq, beq_self_eq_true, Bool.not_true, Bool.not_false, Bool.and_true, Bool.and_false, Bool.true_and, Bool.false_and, gI_sI, gI_sL, gI_sA, gI_sM, gL_sI, gL_sL, gL_sA, gL_sM, aI_sI, aI_sL, aI_sA, aI_sM, aL_sI, aL_sL, aL_sA, aL_sM, Bdeclaration_0, Bdeclaration_11, Bdeclaration_18, Bdeclaration_20, Bdeclaration_31, Bdeclaration_36, Bdeclaration_53, Bdeclaration_55, Bdeclaration_68, Bdeclaration_73, Bdeclaration_95, Bdeclaration_97, Bdeclaration_110, Bdeclaration_114, Bdeclaration_119, Bdeclaration_124, Bdeclaration_147, Bdeclaration_154, Bdeclaration_156, Bdeclaration_179, Bdeclaration_183, Bdeclaration_184, oi_0, oi_1, oi_2, oi_21, oi_22, oi_61, Pu_emit]; try dsimp only
                refine ⟨fun h102 => ?_, fun h102 => absurd h102 (by decide)⟩
                clear h102
                refine hB _ _ _ _ _ (fun m103 hm103 => ?_)
                dsimp only [ugo, uwp, ust, uct, rfd, Bdeclaration, Nat.beq, lv_args, rlk, rs1, rs2, rdl, rky, rcd, rno, rsw, Value.category, List.filter, List.take, List.drop, List.reverse, List.reverseAux, List.cons_append, List.nil_append, Option.toList, Int.toNat, Int.reduceToNat, if_pos, if_neg, reduceIte, ↓reduceIte, Nat.reduceAdd, Nat.reduceEqDiff, Nat.reduceBEq, beq_self_eq_true, Bool.not_true, Bool.not_false, Bool.and_true, Bool.and_false, Bool.true_and, Bool.false_and, gI_sI, gI_sL, gI_sA, gI_sM, gL_sI, gL_sL, gL_sA, gL_sM, aI_sI, aI_sL, aI_sA, aI_sM, aL_sI, aL_sL, aL_sA, aL_sM, Bdeclaration_0, Bdeclaration_11, Bdeclaration_18, Bdeclaration_20, Bdeclaration_31, Bdeclaration_36, Bdeclaration_53, Bdeclaration_55, Bdeclaration_68, Bdeclaration_73, Bdeclaration_95, Bdeclaration_97, Bdeclaration_110, Bdeclaration_114, Bdeclaration_119, Bdeclaration_124, Bdeclaration_147, Bdeclaration_154, Bdeclaration_156, Bdeclaration_179, Bdeclaration_183, Bdeclaration_184, oi_0, oi_1, oi_2, oi_21, oi_22, oi_61, Pu_emit]; try dsimp only
                refine ⟨fun h104 => ?_, fun h104 => absurd h104 (by decide)⟩
                clear h104
                refine hB _ _ _ _ _ (fun m105 hm105 => ?_)
                dsimp only [ugo, uwp, ust, uct, rfd, Bdeclaration, Nat.beq, lv_args, rlk, rs1, rs2, rdl, rky, rcd, rno, rsw, Value.category, List.filter, List.take, List.drop, List.reverse, List.reverseAux, List.cons_append, List.nil_append, Option.toList, Int.toNat, Int.reduceToNat, if_pos, if_neg, reduceIte, ↓reduceIte, Nat.reduceAdd, Nat.reduceEqDiff, Nat.reduceBEq, beq_self_eq_true, Bool.not_true, Bool.not_false, Bool.and_true, Bool.and_false, Bool.true_and, Bool.false_and, gI_sI, gI_sL, gI_sA, gI_sM, gL_sI, gL_sL, gL_sA, gL_sM, aI_sI, aI_sL, aI_sA, aI_sM, aL_sI, aL_sL, aL_sA, aL_sM, Bdeclaration_0, Bdeclaration_11, Bdeclaration_18, Bdeclaration_20, Bdeclaration_31, Bdeclaration_36, Bdeclaration_53, Bdeclaration_55, Bdeclaration_68, Bdeclaration_73, Bdeclaration_95, Bdeclaration_97, Bdeclaration_110, Bdeclaration_114, Bdeclaration_119, Bdeclaration_124, Bdeclaration_147, Bdeclaration_154, Bdeclaration_156, Bdeclaration_179, Bdeclaration_183, Bdeclaration_184, oi_0, oi_1, oi_2, oi_21, oi_22, oi_61, Pu_emit]; try dsimp only
                refine ⟨trivial, fun w106 τ106 hq106 => ?_⟩
                obtain ⟨rfl, hE106⟩ := hq106
                have hR106 := SR.em (e_ := 0) (s := (accY (vadY (aI σ 6 (gI σ 14).toNatClampNeg).toInt 0 (accY s)))) (n := n) (by repeat (first | exact hR73 | refine SR.i ?_ rfl | refine SR.a ?_ rfl)) hE106
                have hg106 := FgR.em (e_ := 0) (by repeat (first | exact hg73 | refine FgR.i ?_ rfl | refine FgR.a ?_ rfl)) (s := (accY (vadY (aI σ 6 (gI σ 14).toNatClampNeg).toInt 0 (accY s)))) (n := n) (by repeat (first | exact hR73 | refine SR.i ?_ rfl | refine SR.a ?_ rfl)) hE106
                have hf106 := frR_em hE106
                dsimp only [Option.toList, List.cons_append, List.nil_append, Nat.beq, gI_sI, gI_sL, gI_sA, gI_sM, gL_sI, gL_sL, gL_sA, gL_sM, aI_sI, aI_sL, aI_sA, aI_sM, aL_sI, aL_sL, aL_sA, aL_sM]
                have q9_106 : gI τ106 49 = gI σ 49 := (hE106.1 49 (by decide)).trans q9_73
                refine ⟨fun h107 => ?_, fun h107 => absurd h107 (by decide)⟩
                clear h107
                refine hB _ _ _ _ _ (fun m108 hm108 => ?_)
                dsimp only [ugo, uwp, ust, uct, rfd, Bdeclaration, Nat.beq, lv_args, rlk, rs1, rs2, rdl, rky, rcd, rno, rsw, Value.category, List.filter, List.take, List.drop, List.reverse, List.reverseAux, List.cons_append, List.nil_append, Option.toList, Int.toNat, Int.reduceToNat, if_pos, if_neg, reduceIte, ↓reduceIte, Nat.reduceAdd, Nat.reduceEqDiff, Nat.reduceBEq, beq_self_eq_true, Bool.not_true, Bool.not_false, Bool.and_true, Bool.and_false, Bool.true_and, Bool.false_and, gI_sI, gI_sL, gI_sA, gI_sM, gL_sI, gL_sL, gL_sA, gL_sM, aI_sI, aI_sL, aI_sA, aI_sM, aL_sI, aL_sL, aL_sA, aL_sM, Bdeclaration_0, Bdeclaration_11, Bdeclaration_18, Bdeclaration_20, Bdeclaration_31, Bdeclaration_36, Bdeclaration_53, Bdeclaration_55, Bdeclaration_68, Bdeclaration_73, Bdeclaration_95, Bdeclaration_97, Bdeclaration_110, Bdeclaration_114, Bdeclaration_119, Bdeclaration_124, Bdeclaration_147, Bdeclaration_154, Bdeclaration_156, Bdeclaration_179, Bdeclaration_183, Bdeclaration_184, oi_0, oi_1, oi_2, oi_21, oi_22, oi_61, Pu_emit]; try dsimp only
                refine hB _ _ _ _ _ (fun m109 hm109 => ?_)
                dsimp only [ugo, uwp, ust, uct, rfd, Bdeclaration, Nat.beq, lv_args, rlk, rs1, rs2, rdl, rky, rcd, rno, rsw, Value.category, List.filter, List.take, List.drop, List.reverse, List.reverseAux, List.cons_append, List.nil_append, Option.toList, Int.toNat, Int.reduceToNat, if_pos, if_neg, reduceIte, ↓reduceIte, Nat.reduceAdd, Nat.reduceEqDiff, Nat.reduceBEq, beq_self_eq_true, Bool.not_true, Bool.not_false, Bool.and_true, Bool.and_false, Bool.true_and, Bool.false_and, gI_sI, gI_sL, gI_sA, gI_sM, gL_sI, gL_sL, gL_sA, gL_sM, aI_sI, aI_sL, aI_sA, aI_sM, aL_sI, aL_sL, aL_sA, aL_sM, Bdeclaration_0, Bdeclaration_11, Bdeclaration_18, Bdeclaration_20, Bdeclaration_31, Bdeclaration_36, Bdeclaration_53, Bdeclaration_55, Bdeclaration_68, Bdeclaration_73, Bdeclaration_95, Bdeclaration_97, Bdeclaration_110, Bdeclaration_114, Bdeclaration_119, Bdeclaration_124, Bdeclaration_147, Bdeclaration_154, Bdeclaration_156, Bdeclaration_179, Bdeclaration_183, Bdeclaration_184, oi_0, oi_1, oi_2, oi_21, oi_22, oi_61, Pu_emit]; try dsimp only
                intro p110
                unfold Qv_declaration
                try dsimp only
                refine Or.inr ⟨rfl, ?_⟩
                rw [var_0 hc2, typ_y hty, htv, hdc, va2_n hc78]
                exact ⟨(by repeat (first | exact hR106 | refine SR.i ?_ rfl | refine SR.a ?_ rfl)), (by repeat (first | exact hg106 | refine FgR.i ?_ rfl | refine FgR.a ?_ rfl)), (by simp only [frR_i, frR_a, ne_eq, Nat.reduceEqDiff, not_false_eq_true, hf106, hf73, hf65]), q9_106⟩
          · refine hB _ _ _ _ _ (fun m111 hm111 => ?_)
            dsimp only [ugo, uwp, ust, uct, rfd, Bdeclaration, Nat.beq, lv_args, rlk, rs1, rs2, rdl, rky, rcd, rno, rsw, Value.category, List.filter, List.take, List.drop, List.reverse, List.reverseAux, List.cons_append, List.nil_append, Option.toList, Int.toNat, Int.reduceToNat, if_pos, if_neg, reduceIte, ↓reduceIte, Nat.reduceAdd, Nat.reduceEqDiff, Nat.reduceBEq, beq_self_eq_true, Bool.not_true, Bool.not_false, Bool.and_true, Bool.and_false, Bool.true_and, Bool.false_and, gI_sI, gI_sL, gI_sA, gI_sM, gL_sI, gL_sL, gL_sA, gL_sM, aI_sI, aI_sL, aI_sA, aI_sM, aL_sI, aL_sL, aL_sA, aL_sM, Bdeclaration_0, Bdeclaration_11, Bdeclaration_18, Bdeclaration_20, Bdeclaration_31, Bdeclaration_36, Bdeclaration_53, Bdeclaration_55, Bdeclaration_68, Bdeclaration_73, Bdeclaration_95, Bdeclaration_97, Bdeclaration_110, Bdeclaration_114, Bdeclaration_119, Bdeclaration_124, Bdeclaration_147, Bdeclaration_154, Bdeclaration_156, Bdeclaration_179, Bdeclaration_183, Bdeclaration_184, oi_0, oi_1, oi_2, oi_21, oi_22, oi_61, Pu_emit]; try dsimp only
            have hnn : ¬ codY (accY s) = 80 := fun q => h71 ((SR.sh hR65).ki.2.2.1.mpr q)
            refine ⟨trivial, fun w112 τ112 hq112 => ?_⟩
            have hq112 := hq112 (accY s) (XrR.s (SR.x (e_ := 0) (by repeat (first | exact hR65 | refine SR.i ?_ rfl | refine SR.a ?_ rfl))))
            obtain ⟨rfl, hF112⟩ := hq112
            dsimp only [Option.toList, List.cons_append, List.nil_append, Nat.beq, gI_sI, gI_sL, gI_sA, gI_sM, gL_sI, gL_sL, gL_sA, gL_sM, aI_sI, aI_sL, aI_sA, aI_sM, aL_sI, aL_sL, aL_sA, aL_sM]
            unfold Qv_declaration
            try dsimp only
            refine Or.inl ⟨rfl, FlR.g hF112 ?_⟩
            rw [var_0 hc2, typ_y hty, dcl_n hnn]
            exact (by repeat (first | with_reducible exact GpY.rf | with_reducible refine GpY.tr ?_ (gd_fo _) | with_reducible refine GpY.tr ?_ (gd_ef _) | with_reducible refine GpY.tr ?_ (gd_cf _) | with_reducible refine GpY.tr ?_ (gd_wt _) | with_reducible refine GpY.tr ?_ (gd_xp _) | with_reducible refine GpY.tr ?_ (gd_acc _) | with_reducible refine GpY.tr ?_ (gd_rai _) | with_reducible refine GpY.tr ?_ (gd_e _) | with_reducible refine GpY.tr ?_ (gd_o _) | with_reducible refine GpY.tr ?_ (gd_c _) | with_reducible refine GpY.tr ?_ (gd_op _) | with_reducible refine GpY.tr ?_ (gd_clp gd_e _ _) | with_reducible refine GpY.tr ?_ (gd_tl _) | with_reducible refine GpY.tr ?_ (gd_sf _ _ _) | with_reducible refine GpY.tr ?_ (gd_cl _) | with_reducible refine GpY.tr ?_ (gd_pc _) | with_reducible refine GpY.tr ?_ (gd_st _) | with_reducible refine GpY.tr ?_ (gd_rw _) | with_reducible refine GpY.tr ?_ (gd_typ _) | with_reducible refine GpY.tr ?_ (gd_dcl _) | with_reducible refine GpY.tr ?_ (gd_va2 _) | with_reducible refine GpY.tr ?_ (gd_cnd _) | with_reducible refine GpY.tr ?_ (gd_tr1 _) | with_reducible refine GpY.tr ?_ (gd_tr2 (fun _ => gd_rw) _) | with_reducible refine GpY.tr ?_ (gd_tr3 (fun _ => gd_rw) _) | with_reducible refine GpY.tr ?_ (gd_fo1 _) | with_reducible refine GpY.tr ?_ (gd_fo2 _) | with_reducible refine GpY.tr ?_ (gd_fo3 _) | with_reducible refine GpY.tr ?_ (gd_fex _) | with_reducible refine GpY.tr ?_ (pg_var.1) | with_reducible refine GpY.tr ?_ (pg_cas.1) | exact GpY.rf))
      · dsimp only [Option.toList, List.cons_append, List.nil_append, Nat.beq, gI_sI, gI_sL, gI_sA, gI_sM, gL_sI, gL_sL, gL_sA, gL_sM, aI_sI, aI_sL, aI_sA, aI_sM, aL_sI, aL_sL, aL_sA, aL_sM]
        have hc61 : ¬ (50 ≤ codY s ∧ codY s ≤ 54) := fun q => hk61 (he61.mpr q)
        refine ⟨fun h113 => absurd h113 (by decide), fun h113 => ?_⟩
        clear h113
        refine hB _ _ _ _ _ (fun m114 hm114 => ?_)
        dsimp only [ugo, uwp, ust, uct, rfd, Bdeclaration, Nat.beq, lv_args, rlk, rs1, rs2, rdl, rky, rcd, rno, rsw, Value.category, List.filter, List.take, List.drop, List.reverse, List.reverseAux, List.cons_append, List.nil_append, Option.toList, Int.toNat, Int.reduceToNat, if_pos, if_neg, reduceIte, ↓reduceIte, Nat.reduceAdd, Nat.reduceEqDiff, Nat.reduceBEq, beq_self_eq_true, Bool.not_true, Bool.not_false, Bool.and_true, Bool.and_false, Bool.true_and, Bool.false_and, gI_sI, gI_sL, gI_sA, gI_sM, gL_sI, gL_sL, gL_sA, gL_sM, aI_sI, aI_sL, aI_sA, aI_sM, aL_sI, aL_sL, aL_sA, aL_sM, Bdeclaration_0, Bdeclaration_11, Bdeclaration_18, Bdeclaration_20, Bdeclaration_31, Bdeclaration_36, Bdeclaration_53, Bdeclaration_55, Bdeclaration_68, Bdeclaration_73, Bdeclaration_95, Bdeclaration_97, Bdeclaration_110, Bdeclaration_114, Bdeclaration_119, Bdeclaration_124, Bdeclaration_147, Bdeclaration_154, Bdeclaration_156, Bdeclaration_179, Bdeclaration_183, Bdeclaration_184, oi_0, oi_1, oi_2, oi_21, oi_22, oi_61, Pu_emit]; try dsimp only
        refine ⟨trivial, fun w115 τ115 hq115 => ?_⟩
        have hq115 := hq115 s (XrR.s (SR.x (e_ := 0) (by repeat (first | exact hR | refine SR.i ?_ rfl | refine SR.a ?_ rfl))))
        obtain ⟨rfl, hF115⟩ := hq115
        dsimp only [Option.toList, List.cons_append, List.nil_append, Nat.beq, gI_sI, gI_sL, gI_sA, gI_sM, gL_sI, gL_sL, gL_sA, gL_sM, aI_sI, aI_sL, aI_sA, aI_sM, aL_sI, aL_sL, aL_sA, aL_sM]
        unfold Qv_declaration
        try dsimp only
        refine Or.inl ⟨rfl, FlR.g hF115 ?_⟩
        rw [var_0 hc2, typ_n hc61]
        exact (by repeat (first | with_reducible exact GpY.rf | with_reducible refine GpY.tr ?_ (gd_fo _) | with_reducible refine GpY.tr ?_ (gd_ef _) | with_reducible refine GpY.tr ?_ (gd_cf _) | with_reducible refine GpY.tr ?_ (gd_wt _) | with_reducible refine GpY.tr ?_ (gd_xp _) | with_reducible refine GpY.tr ?_ (gd_acc _) | with_reducible refine GpY.tr ?_ (gd_rai _) | with_reducible refine GpY.tr ?_ (gd_e _) | with_reducible refine GpY.tr ?_ (gd_o _) | with_reducible refine GpY.tr ?_ (gd_c _) | with_reducible refine GpY.tr ?_ (gd_op _) | with_reducible refine GpY.tr ?_ (gd_clp gd_e _ _) | with_reducible refine GpY.tr ?_ (gd_tl _) | with_reducible refine GpY.tr ?_ (gd_sf _ _ _) | with_reducible refine GpY.tr ?_ (gd_cl _) | with_reducible refine GpY.tr ?_ (gd_pc _) | with_reducible refine GpY.tr ?_ (gd_st _) | with_reducible refine GpY.tr ?_ (gd_rw _) | with_reducible refine GpY.tr ?_ (gd_typ _) | with_reducible refine GpY.tr ?_ (gd_dcl _) | with_reducible refine GpY.tr ?_ (gd_va2 _) | with_reducible refine GpY.tr ?_ (gd_cnd _) | with_reducible refine GpY.tr ?_ (gd_tr1 _) | with_reducible refine GpY.tr ?_ (gd_tr2 (fun _ => gd_rw) _) | with_reducible refine GpY.tr ?_ (gd_tr3 (fun _ => gd_rw) _) | with_reducible refine GpY.tr ?_ (gd_fo1 _) | with_reducible refine GpY.tr ?_ (gd_fo2 _) | with_reducible refine GpY.tr ?_ (gd_fo3 _) | with_reducible refine GpY.tr ?_ (gd_fex _) | with_reducible refine GpY.tr ?_ (pg_var.1) | with_reducible refine GpY.tr ?_ (pg_cas.1) | exact GpY.rf))
  next => exact hP.elim
theorem w_declaration : UMet 48 (fun _ _ => True) Qw_declaration := fun A1 σ _ w τ h s n hP => v_declaration s n A1 σ hP w τ h
def Pv_told (s : SpC) (n : Nat) : UP1 := fun A1 σ => match A1 with
  | [] => SR σ s n ∧ FgR σ 0 ∧ frR σ ≠ []
  | _ => False
def Qv_told (s : SpC) (n : Nat) : UQ1 := fun A1 σ w τ => match A1 with
  | [] => (w = some (.int 0) ∧ FlR τ (xpY 4 (varY n s))) ∨ (w = some (.int 1) ∧ SR τ (xpY 4 (varY n s)) n ∧ FgR τ 0 ∧ frR τ = frR σ ∧ gI τ 49 = gI σ 49)
  | _ => False
def Qw_told : UQ1 := fun A1 σ w τ => ∀ (s : SpC) (n : Nat), Pv_told s n A1 σ → Qv_told s n A1 σ w τ
set_option maxRecDepth 100000 in
set_option maxHeartbeats 4000000 in
theorem v_told (s : SpC) (n : Nat) : UMet 47 (Pv_told s n) (Qv_told s n) := by
  refine UMet.by Btold [(48, (fun _ _ => True), Qw_declaration), (20, Pu_emit, Qu_emit), (41, Pu_scope, Qu_scope), (18, (fun _ _ => True), Qw_want)] rfl (ucc w_declaration (ucc u_emit (ucc u_scope (ucc w_want uc0)))) ?_
  intro A1 σ hP K hB hW
  unfold Pv_told at hP
  split at hP
  next =>
    obtain ⟨hR, hg, hne⟩ := hP
    have hnn := hR.2.1
    intro n0_
    refine hB _ _ _ _ _ (fun m1 hm1 => ?_)
    dsimp only [ugo, uwp, ust, uct, rfd, Btold, Nat.beq, lv_args, rlk, rs1, rs2, rdl, rky, rcd, rno, rsw, Value.category, List.filter, List.take, List.drop, List.reverse, List.reverseAux, List.cons_append, List.nil_append, Option.toList, Int.toNat, Int.reduceToNat, if_pos, if_neg, reduceIte, ↓reduceIte, Nat.reduceAdd, Nat.reduceEqDiff, Nat.reduceBEq, beq_self_eq_true, Bool.not_true, Bool.not_false, Bool.and_true, Bool.and_false, Bool.true_and, Bool.false_and, gI_sI, gI_sL, gI_sA, gI_sM, gL_sI, gL_sL, gL_sA, gL_sM, aI_sI, aI_sL, aI_sA, aI_sM, aL_sI, aL_sL, aL_sA, aL_sM, Btold_0, Btold_23, Btold_32, Btold_34, oi_0, oi_1, oi_20, oi_45, oi_59, Pu_emit, Pu_scope]; try dsimp only
    refine ⟨trivial, fun w2 τ2 hq2 => ?_⟩
    obtain ⟨rfl, hE2⟩ := hq2
    have hR2 := SR.em (e_ := 0) (s := s) (n := n) (by repeat (first | exact hR | refine SR.i ?_ rfl | refine SR.a ?_ rfl)) hE2
    have hg2 := FgR.em (e_ := 0) (by repeat (first | exact hg | refine FgR.i ?_ rfl | refine FgR.a ?_ rfl)) (s := s) (n := n) (by repeat (first | exact hR | refine SR.i ?_ rfl | refine SR.a ?_ rfl)) hE2
    have hf2 := frR_em hE2
    dsimp only [Option.toList, List.cons_append, List.nil_append, Nat.beq, gI_sI, gI_sL, gI_sA, gI_sM, gL_sI, gL_sL, gL_sA, gL_sM, aI_sI, aI_sL, aI_sA, aI_sM, aL_sI, aL_sL, aL_sA, aL_sM]
    have q9_2 : gI τ2 49 = gI σ 49 := (hE2.1 49 (by decide)).trans rfl
    refine ⟨trivial, fun w3 τ3 hq3 => ?_⟩
    obtain ⟨r3, rfl, rfl⟩ := hq3
    dsimp only [Option.toList, List.cons_append, List.nil_append, Nat.beq, gI_sI, gI_sL, gI_sA, gI_sM, gL_sI, gL_sL, gL_sA, gL_sM, aI_sI, aI_sL, aI_sA, aI_sM, aL_sI, aL_sL, aL_sA, aL_sM]
    refine ⟨trivial, fun w4 τ4 hq4 => ?_⟩
    have hq4 := hq4 s n ⟨(by repeat (first | exact hR2 | refine SR.i ?_ rfl | refine SR.a ?_ rfl)), (by repeat (first | exact hg2 | refine FgR.i ?_ rfl | refine FgR.a ?_ rfl)), (by (try simp only [frR_i, frR_a, ne_eq, Nat.reduceEqDiff, not_false_eq_true, hf2]); exact hne)⟩
    rcases hq4 with ⟨rfl, hF4⟩ | ⟨rfl, hR4, hg4, hf4, h49_4⟩
    · dsimp only [Option.toList, List.cons_append, List.nil_append, Nat.beq, gI_sI, gI_sL, gI_sA, gI_sM, gL_sI, gL_sL, gL_sA, gL_sM, aI_sI, aI_sL, aI_sA, aI_sM, aL_sI, aL_sL, aL_sA, aL_sM]
      refine ⟨fun h5 => ?_, fun h5 => absurd h5 (by decide)⟩
      clear h5
      refine hB _ _ _ _ _ (fun m6 hm6 => ?_)
      dsimp only [ugo, uwp, ust, uct, rfd, Btold, Nat.beq, lv_args, rlk, rs1, rs2, rdl, rky, rcd, rno, rsw, Value.category, List.filter, List.take, List.drop, List.reverse, List.reverseAux, List.cons_append, List.nil_append, Option.toList, Int.toNat, Int.reduceToNat, if_pos, if_neg, reduceIte, ↓reduceIte, Nat.reduceAdd, Nat.reduceEqDiff, Nat.reduceBEq, beq_self_eq_true, Bool.not_true, Bool.not_false, Bool.and_true, Bool.and_false, Bool.true_and, Bool.false_and, gI_sI, gI_sL, gI_sA, gI_sM, gL_sI, gL_sL, gL_sA, gL_sM, aI_sI, aI_sL, aI_sA, aI_sM, aL_sI, aL_sL, aL_sA, aL_sM, Btold_0, Btold_23, Btold_32, Btold_34, oi_0, oi_1, oi_20, oi_45, oi_59, Pu_emit, Pu_scope]; try dsimp only
      unfold Qv_told
      try dsimp only
      exact Or.inl ⟨rfl, FlR.g hF4 (by repeat (first | with_reducible exact GpY.rf | with_reducible refine GpY.tr ?_ (gd_fo _) | with_reducible refine GpY.tr ?_ (gd_ef _) | with_reducible refine GpY.tr ?_ (gd_cf _) | with_reducible refine GpY.tr ?_ (gd_wt _) | with_reducible refine GpY.tr ?_ (gd_xp _) | with_reducible refine GpY.tr ?_ (gd_acc _) | with_reducible refine GpY.tr ?_ (gd_rai _) | with_reducible refine GpY.tr ?_ (gd_e _) | with_reducible refine GpY.tr ?_ (gd_o _) | with_reducible refine GpY.tr ?_ (gd_c _) | with_reducible refine GpY.tr ?_ (gd_op _) | with_reducible refine GpY.tr ?_ (gd_clp gd_e _ _) | with_reducible refine GpY.tr ?_ (gd_tl _) | with_reducible refine GpY.tr ?_ (gd_sf _ _ _) | with_reducible refine GpY.tr ?_ (gd_cl _) | with_reducible refine GpY.tr ?_ (gd_pc _) | with_reducible refine GpY.tr ?_ (gd_st _) | with_reducible refine GpY.tr ?_ (gd_rw _) | with_reducible refine GpY.tr ?_ (gd_typ _) | with_reducible refine GpY.tr ?_ (gd_dcl _) | with_reducible refine GpY.tr ?_ (gd_va2 _) | with_reducible refine GpY.tr ?_ (gd_cnd _) | with_reducible refine GpY.tr ?_ (gd_tr1 _) | with_reducible refine GpY.tr ?_ (gd_tr2 (fun _ => gd_rw) _) | with_reducible refine GpY.tr ?_ (gd_tr3 (fun _ => gd_rw) _) | with_reducible refine GpY.tr ?_ (gd_fo1 _) | with_reducible refine GpY.tr ?_ (gd_fo2 _) | with_reducible refine GpY.tr ?_ (gd_fo3 _) | with_reducible refine GpY.tr ?_ (gd_fex _) | with_reducible refine GpY.tr ?_ (pg_var.1) | with_reducible refine GpY.tr ?_ (pg_cas.1) | exact GpY.rf))⟩
    · dsimp only [Option.toList, List.cons_append, List.nil_append, Nat.beq, gI_sI, gI_sL, gI_sA, gI_sM, gL_sI, gL_sL, gL_sA, gL_sM, aI_sI, aI_sL, aI_sA, aI_sM, aL_sI, aL_sL, aL_sA, aL_sM]
      have q9_4 := h49_4.trans q9_2
      refine ⟨fun h7 => absurd h7 (by decide), fun h7 => ?_⟩
      clear h7
      refine hB _ _ _ _ _ (fun m8 hm8 => ?_)
      dsimp only [ugo, uwp, ust, uct, rfd, Btold, Nat.beq, lv_args, rlk, rs1, rs2, rdl, rky, rcd, rno, rsw, Value.category, List.filter, List.take, List.drop, List.reverse, List.reverseAux, List.cons_append, List.nil_append, Option.toList, Int.toNat, Int.reduceToNat, if_pos, if_neg, reduceIte, ↓reduceIte, Nat.reduceAdd, Nat.reduceEqDiff, Nat.reduceBEq, beq_self_eq_true, Bool.not_true, Bool.not_false, Bool.and_true, Bool.and_false, Bool.true_and, Bool.false_and, gI_sI, gI_sL, gI_sA, gI_sM, gL_sI, gL_sL, gL_sA, gL_sM, aI_sI, aI_sL, aI_sA, aI_sM, aL_sI, aL_sL, aL_sA, aL_sM, Btold_0, Btold_23, Btold_32, Btold_34, oi_0, oi_1, oi_20, oi_45, oi_59, Pu_emit, Pu_scope]; try dsimp only
      refine ⟨trivial, fun w9 τ9 hq9 => ?_⟩
      have hq9 := hq9 _ (varY n s) n 4 ⟨(SR.x (e_ := 0) (by repeat (first | exact hR4 | refine SR.i ?_ rfl | refine SR.a ?_ rfl))), by decide⟩
      rcases hq9 with ⟨rfl, hF9⟩ | ⟨rfl, hc9, hX9, hz9, hS9⟩
      · dsimp only [Option.toList, List.cons_append, List.nil_append, Nat.beq, gI_sI, gI_sL, gI_sA, gI_sM, gL_sI, gL_sL, gL_sA, gL_sM, aI_sI, aI_sL, aI_sA, aI_sM, aL_sI, aL_sL, aL_sA, aL_sM]
        refine ⟨fun h10 => absurd h10 (by decide), fun h10 => ?_⟩
        clear h10
        refine hB _ _ _ _ _ (fun m11 hm11 => ?_)
        dsimp only [ugo, uwp, ust, uct, rfd, Btold, Nat.beq, lv_args, rlk, rs1, rs2, rdl, rky, rcd, rno, rsw, Value.category, List.filter, List.take, List.drop, List.reverse, List.reverseAux, List.cons_append, List.nil_append, Option.toList, Int.toNat, Int.reduceToNat, if_pos, if_neg, reduceIte, ↓reduceIte, Nat.reduceAdd, Nat.reduceEqDiff, Nat.reduceBEq, beq_self_eq_true, Bool.not_true, Bool.not_false, Bool.and_true, Bool.and_false, Bool.true_and, Bool.false_and, gI_sI, gI_sL, gI_sA, gI_sM, gL_sI, gL_sL, gL_sA, gL_sM, aI_sI, aI_sL, aI_sA, aI_sM, aL_sI, aL_sL, aL_sA, aL_sM, Btold_0, Btold_23, Btold_32, Btold_34, oi_0, oi_1, oi_20, oi_45, oi_59, Pu_emit, Pu_scope]; try dsimp only
        unfold Qv_told
        try dsimp only
        exact Or.inl ⟨rfl, FlR.g hF9 (by repeat (first | with_reducible exact GpY.rf | with_reducible refine GpY.tr ?_ (gd_fo _) | with_reducible refine GpY.tr ?_ (gd_ef _) | with_reducible refine GpY.tr ?_ (gd_cf _) | with_reducible refine GpY.tr ?_ (gd_wt _) | with_reducible refine GpY.tr ?_ (gd_xp _) | with_reducible refine GpY.tr ?_ (gd_acc _) | with_reducible refine GpY.tr ?_ (gd_rai _) | with_reducible refine GpY.tr ?_ (gd_e _) | with_reducible refine GpY.tr ?_ (gd_o _) | with_reducible refine GpY.tr ?_ (gd_c _) | with_reducible refine GpY.tr ?_ (gd_op _) | with_reducible refine GpY.tr ?_ (gd_clp gd_e _ _) | with_reducible refine GpY.tr ?_ (gd_tl _) | with_reducible refine GpY.tr ?_ (gd_sf _ _ _) | with_reducible refine GpY.tr ?_ (gd_cl _) | with_reducible refine GpY.tr ?_ (gd_pc _) | with_reducible refine GpY.tr ?_ (gd_st _) | with_reducible refine GpY.tr ?_ (gd_rw _) | with_reducible refine GpY.tr ?_ (gd_typ _) | with_reducible refine GpY.tr ?_ (gd_dcl _) | with_reducible refine GpY.tr ?_ (gd_va2 _) | with_reducible refine GpY.tr ?_ (gd_cnd _) | with_reducible refine GpY.tr ?_ (gd_tr1 _) | with_reducible refine GpY.tr ?_ (gd_tr2 (fun _ => gd_rw) _) | with_reducible refine GpY.tr ?_ (gd_tr3 (fun _ => gd_rw) _) | with_reducible refine GpY.tr ?_ (gd_fo1 _) | with_reducible refine GpY.tr ?_ (gd_fo2 _) | with_reducible refine GpY.tr ?_ (gd_fo3 _) | with_reducible refine GpY.tr ?_ (gd_fex _) | with_reducible refine GpY.tr ?_ (pg_var.1) | with_reducible refine GpY.tr ?_ (pg_cas.1) | exact GpY.rf))⟩
      · dsimp only [Option.toList, List.cons_append, List.nil_append, Nat.beq, gI_sI, gI_sL, gI_sA, gI_sM, gL_sI, gL_sL, gL_sA, gL_sM, aI_sI, aI_sL, aI_sA, aI_sM, aL_sI, aL_sL, aL_sA, aL_sM]
        have hR9 := SR.kr (e_ := 0) (by repeat (first | exact hR4 | refine SR.i ?_ rfl | refine SR.a ?_ rfl)) hX9 acc2
        have hg9 := FgR.kr (e_ := 0) (s := (varY n s)) (n := n) (by repeat (first | exact hg4 | refine FgR.i ?_ rfl | refine FgR.a ?_ rfl)) (by repeat (first | exact hR4 | refine SR.i ?_ rfl | refine SR.a ?_ rfl)) hX9
        have hf9 := frR_kr hX9
        have q9_9 : gI τ9 49 = gI σ 49 := (hX9.2.2.1.1 49 rfl).trans q9_4
        refine ⟨fun h12 => ?_, fun h12 => absurd h12 (by decide)⟩
        clear h12
        refine hB _ _ _ _ _ (fun m13 hm13 => ?_)
        dsimp only [ugo, uwp, ust, uct, rfd, Btold, Nat.beq, lv_args, rlk, rs1, rs2, rdl, rky, rcd, rno, rsw, Value.category, List.filter, List.take, List.drop, List.reverse, List.reverseAux, List.cons_append, List.nil_append, Option.toList, Int.toNat, Int.reduceToNat, if_pos, if_neg, reduceIte, ↓reduceIte, Nat.reduceAdd, Nat.reduceEqDiff, Nat.reduceBEq, beq_self_eq_true, Bool.not_true, Bool.not_false, Bool.and_true, Bool.and_false, Bool.true_and, Bool.false_and, gI_sI, gI_sL, gI_sA, gI_sM, gL_sI, gL_sL, gL_sA, gL_sM, aI_sI, aI_sL, aI_sA, aI_sM, aL_sI, aL_sL, aL_sA, aL_sM, Btold_0, Btold_23, Btold_32, Btold_34, oi_0, oi_1, oi_20, oi_45, oi_59, Pu_emit, Pu_scope]; try dsimp only
        intro p14
        refine ⟨trivial, fun w15 τ15 hq15 => ?_⟩
        obtain ⟨rfl, hE15⟩ := hq15
        have hR15 := SR.em (e_ := 0) (s := (accY (varY n s))) (n := n) (by repeat (first | exact hR9 | refine SR.i ?_ rfl | refine SR.a ?_ rfl)) hE15
        have hg15 := FgR.em (e_ := 0) (by repeat (first | exact hg9 | refine FgR.i ?_ rfl | refine FgR.a ?_ rfl)) (s := (accY (varY n s))) (n := n) (by repeat (first | exact hR9 | refine SR.i ?_ rfl | refine SR.a ?_ rfl)) hE15
        have hf15 := frR_em hE15
        dsimp only [Option.toList, List.cons_append, List.nil_append, Nat.beq, gI_sI, gI_sL, gI_sA, gI_sM, gL_sI, gL_sL, gL_sA, gL_sM, aI_sI, aI_sL, aI_sA, aI_sM, aL_sI, aL_sL, aL_sA, aL_sM]
        have q9_15 : gI τ15 49 = gI σ 49 := (hE15.1 49 (by decide)).trans q9_9
        unfold Qv_told
        try dsimp only
        refine Or.inr ⟨rfl, ?_⟩
        rw [xp_y hc9]
        exact ⟨(by repeat (first | exact hR15 | refine SR.i ?_ rfl | refine SR.a ?_ rfl)), (by repeat (first | exact hg15 | refine FgR.i ?_ rfl | refine FgR.a ?_ rfl)), (by simp only [frR_i, frR_a, ne_eq, Nat.reduceEqDiff, not_false_eq_true, hf15, hf9, hf4, hf2]), q9_15⟩
  next => exact hP.elim
theorem w_told : UMet 47 (fun _ _ => True) Qw_told := fun A1 σ _ w τ h s n hP => v_told s n A1 σ hP w τ h
def Pv_exps (s : SpC) (n : Nat) : UP1 := fun A1 σ => match A1 with
  | [] => SR σ s n ∧ FgR σ 0
  | _ => False
def Qv_exps (s : SpC) (n : Nat) : UQ1 := fun A1 σ w τ => match A1 with
  | [] => (w = some (.int 0) ∧ FlR τ (fexY n s)) ∨ (w = some (.int 1) ∧ SR τ (fexY n s) n ∧ FgR τ 0 ∧ frR τ = frR σ ∧ gI τ 49 = gI σ 49)
  | _ => False
def Qw_exps : UQ1 := fun A1 σ w τ => ∀ (s : SpC) (n : Nat), Pv_exps s n A1 σ → Qv_exps s n A1 σ w τ
set_option maxRecDepth 100000 in
set_option maxHeartbeats 4000000 in
theorem v_exps (s : SpC) (n : Nat) : UMet 56 (Pv_exps s n) (Qv_exps s n) := by
  refine UMet.by Bexps [(27, (fun _ _ => True), Qw_expression), (14, (fun _ _ => True), Qw_isSign), (51, Pu_pop, Qu_pop), (17, (fun _ _ => True), Qw_take)] rfl (ucc w_expression (ucc w_isSign (ucc u_pop (ucc w_take uc0)))) ?_
  intro A1 σ hP K hB hW
  unfold Pv_exps at hP
  split at hP
  next =>
    obtain ⟨hR, hg⟩ := hP
    have loop : ∀ (N : Nat) (Y : RS) (t : SpC) (more : Int32), SR Y t n → FgR Y 0 → frR Y = frR σ → gI Y 49 = gI σ 49 → ((more = 1 ∧ clpY (eY n) 501 (eY n t) = fexY n s) ∨ (more = 0 ∧ t = fexY n s)) → K N 2 [(0, .ref 1000), (1, .int more)] [] Y := by
      intro N
      induction N using Nat.strongRecOn with
      | ind N loop =>
        intro Y t more hR hg hf h9 hm
        refine hB _ _ _ _ _ (fun m1 hm1 => ?_)
        dsimp only [ugo, uwp, ust, uct, rfd, Bexps, Nat.beq, lv_args, rlk, rs1, rs2, rdl, rky, rcd, rno, rsw, Value.category, List.filter, List.take, List.drop, List.reverse, List.reverseAux, List.cons_append, List.nil_append, Option.toList, Int.toNat, Int.reduceToNat, if_pos, if_neg, reduceIte, ↓reduceIte, Nat.reduceAdd, Nat.reduceEqDiff, Nat.reduceBEq, beq_self_eq_true, Bool.not_true, Bool.not_false, Bool.and_true, Bool.and_false, Bool.true_and, Bool.false_and, gI_sI, gI_sL, gI_sA, gI_sM, gL_sI, gL_sL, gL_sA, gL_sM, aI_sI, aI_sL, aI_sA, aI_sM, aL_sI, aL_sL, aL_sA, aL_sM, Bexps_0, Bexps_2, Bexps_6, Bexps_13, Bexps_15, Bexps_30, Bexps_37, Bexps_39, oi_0, oi_1, oi_44, Pu_pop]; try dsimp only
        refine ⟨fun h2 => ?_, fun h2 => ?_⟩
        · refine hB _ _ _ _ _ (fun m3 hm3 => ?_)
          dsimp only [ugo, uwp, ust, uct, rfd, Bexps, Nat.beq, lv_args, rlk, rs1, rs2, rdl, rky, rcd, rno, rsw, Value.category, List.filter, List.take, List.drop, List.reverse, List.reverseAux, List.cons_append, List.nil_append, Option.toList, Int.toNat, Int.reduceToNat, if_pos, if_neg, reduceIte, ↓reduceIte, Nat.reduceAdd, Nat.reduceEqDiff, Nat.reduceBEq, beq_self_eq_true, Bool.not_true, Bool.not_false, Bool.and_true, Bool.and_false, Bool.true_and, Bool.false_and, gI_sI, gI_sL, gI_sA, gI_sM, gL_sI, gL_sL, gL_sA, gL_sM, aI_sI, aI_sL, aI_sA, aI_sM, aL_sI, aL_sL, aL_sA, aL_sM, Bexps_0, Bexps_2, Bexps_6, Bexps_13, Bexps_15, Bexps_30, Bexps_37, Bexps_39, oi_0, oi_1, oi_44, Pu_pop]; try dsimp only
          unfold Qv_exps
          try dsimp only
          obtain ⟨-, rfl⟩ := hm.resolve_left (fun q => absurd q.1 (by lia))
          exact Or.inr ⟨rfl, hR, hg, hf, h9⟩
        · refine hB _ _ _ _ _ (fun m4 hm4 => ?_)
          dsimp only [ugo, uwp, ust, uct, rfd, Bexps, Nat.beq, lv_args, rlk, rs1, rs2, rdl, rky, rcd, rno, rsw, Value.category, List.filter, List.take, List.drop, List.reverse, List.reverseAux, List.cons_append, List.nil_append, Option.toList, Int.toNat, Int.reduceToNat, if_pos, if_neg, reduceIte, ↓reduceIte, Nat.reduceAdd, Nat.reduceEqDiff, Nat.reduceBEq, beq_self_eq_true, Bool.not_true, Bool.not_false, Bool.and_true, Bool.and_false, Bool.true_and, Bool.false_and, gI_sI, gI_sL, gI_sA, gI_sM, gL_sI, gL_sL, gL_sA, gL_sM, aI_sI, aI_sL, aI_sA, aI_sM, aL_sI, aL_sL, aL_sA, aL_sM, Bexps_0, Bexps_2, Bexps_6, Bexps_13, Bexps_15, Bexps_30, Bexps_37, Bexps_39, oi_0, oi_1, oi_44, Pu_pop]; try dsimp only
          obtain ⟨-, hPh⟩ := hm.resolve_right (fun q => absurd q.1 (by lia))
          have hnn := hR.2.1
          refine ⟨trivial, fun w5 τ5 hq5 => ?_⟩
          have hq5 := hq5 _ t n ⟨(SR.x (e_ := 0) (by repeat (first | exact hR | refine SR.i ?_ rfl | refine SR.a ?_ rfl))), by omega⟩
          rcases hq5 with ⟨rfl, hF5⟩ | ⟨rfl, hX5, hs2_5⟩
          · dsimp only [Option.toList, List.cons_append, List.nil_append, Nat.beq, gI_sI, gI_sL, gI_sA, gI_sM, gL_sI, gL_sL, gL_sA, gL_sM, aI_sI, aI_sL, aI_sA, aI_sM, aL_sI, aL_sL, aL_sA, aL_sM]
            refine ⟨fun h6 => absurd h6 (by decide), fun h6 => ?_⟩
            clear h6
            refine hB _ _ _ _ _ (fun m7 hm7 => ?_)
            dsimp only [ugo, uwp, ust, uct, rfd, Bexps, Nat.beq, lv_args, rlk, rs1, rs2, rdl, rky, rcd, rno, rsw, Value.category, List.filter, List.take, List.drop, List.reverse, List.reverseAux, List.cons_append, List.nil_append, Option.toList, Int.toNat, Int.reduceToNat, if_pos, if_neg, reduceIte, ↓reduceIte, Nat.reduceAdd, Nat.reduceEqDiff, Nat.reduceBEq, beq_self_eq_true, Bool.not_true, Bool.not_false, Bool.and_true, Bool.and_false, Bool.true_and, Bool.false_and, gI_sI, gI_sL, gI_sA, gI_sM, gL_sI, gL_sL, gL_sA, gL_sM, aI_sI, aI_sL, aI_sA, aI_sM, aL_sI, aL_sL, aL_sA, aL_sM, Bexps_0, Bexps_2, Bexps_6, Bexps_13, Bexps_15, Bexps_30, Bexps_37, Bexps_39, oi_0, oi_1, oi_44, Pu_pop]; try dsimp only
            unfold Qv_exps
            try dsimp only
            refine Or.inl ⟨rfl, FlR.g hF5 ?_⟩
            rw [← hPh]
            exact (by repeat (first | with_reducible exact GpY.rf | with_reducible refine GpY.tr ?_ (gd_fo _) | with_reducible refine GpY.tr ?_ (gd_ef _) | with_reducible refine GpY.tr ?_ (gd_cf _) | with_reducible refine GpY.tr ?_ (gd_wt _) | with_reducible refine GpY.tr ?_ (gd_xp _) | with_reducible refine GpY.tr ?_ (gd_acc _) | with_reducible refine GpY.tr ?_ (gd_rai _) | with_reducible refine GpY.tr ?_ (gd_e _) | with_reducible refine GpY.tr ?_ (gd_o _) | with_reducible refine GpY.tr ?_ (gd_c _) | with_reducible refine GpY.tr ?_ (gd_op _) | with_reducible refine GpY.tr ?_ (gd_clp gd_e _ _) | with_reducible refine GpY.tr ?_ (gd_tl _) | with_reducible refine GpY.tr ?_ (gd_sf _ _ _) | with_reducible refine GpY.tr ?_ (gd_cl _) | with_reducible refine GpY.tr ?_ (gd_pc _) | with_reducible refine GpY.tr ?_ (gd_st _) | with_reducible refine GpY.tr ?_ (gd_rw _) | with_reducible refine GpY.tr ?_ (gd_typ _) | with_reducible refine GpY.tr ?_ (gd_dcl _) | with_reducible refine GpY.tr ?_ (gd_va2 _) | with_reducible refine GpY.tr ?_ (gd_cnd _) | with_reducible refine GpY.tr ?_ (gd_tr1 _) | with_reducible refine GpY.tr ?_ (gd_tr2 (fun _ => gd_rw) _) | with_reducible refine GpY.tr ?_ (gd_tr3 (fun _ => gd_rw) _) | with_reducible refine GpY.tr ?_ (gd_fo1 _) | with_reducible refine GpY.tr ?_ (gd_fo2 _) | with_reducible refine GpY.tr ?_ (gd_fo3 _) | with_reducible refine GpY.tr ?_ (gd_fex _) | with_reducible refine GpY.tr ?_ (pg_var.1) | with_reducible refine GpY.tr ?_ (pg_cas.1) | exact GpY.rf))
          · dsimp only [Option.toList, List.cons_append, List.nil_append, Nat.beq, gI_sI, gI_sL, gI_sA, gI_sM, gL_sI, gL_sL, gL_sA, gL_sM, aI_sI, aI_sL, aI_sA, aI_sM, aL_sI, aL_sL, aL_sA, aL_sM]
            have hR5 := SR.kr (e_ := 0) (by repeat (first | exact hR | refine SR.i ?_ rfl | refine SR.a ?_ rfl)) hX5 hs2_5
            have hg5 := FgR.kr (e_ := 0) (s := t) (n := n) (by repeat (first | exact hg | refine FgR.i ?_ rfl | refine FgR.a ?_ rfl)) (by repeat (first | exact hR | refine SR.i ?_ rfl | refine SR.a ?_ rfl)) hX5
            have hf5 := frR_kr hX5
            have q9_5 : gI τ5 49 = gI σ 49 := (hX5.2.2.1.1 49 rfl).trans h9
            refine ⟨fun h8 => ?_, fun h8 => absurd h8 (by decide)⟩
            clear h8
            refine hB _ _ _ _ _ (fun m9 hm9 => ?_)
            dsimp only [ugo, uwp, ust, uct, rfd, Bexps, Nat.beq, lv_args, rlk, rs1, rs2, rdl, rky, rcd, rno, rsw, Value.category, List.filter, List.take, List.drop, List.reverse, List.reverseAux, List.cons_append, List.nil_append, Option.toList, Int.toNat, Int.reduceToNat, if_pos, if_neg, reduceIte, ↓reduceIte, Nat.reduceAdd, Nat.reduceEqDiff, Nat.reduceBEq, beq_self_eq_true, Bool.not_true, Bool.not_false, Bool.and_true, Bool.and_false, Bool.true_and, Bool.false_and, gI_sI, gI_sL, gI_sA, gI_sM, gL_sI, gL_sL, gL_sA, gL_sM, aI_sI, aI_sL, aI_sA, aI_sM, aL_sI, aL_sL, aL_sA, aL_sM, Bexps_0, Bexps_2, Bexps_6, Bexps_13, Bexps_15, Bexps_30, Bexps_37, Bexps_39, oi_0, oi_1, oi_44, Pu_pop]; try dsimp only
            refine ⟨trivial, fun w10 τ10 hq10 => ?_⟩
            obtain ⟨rfl, a10, hE10⟩ := hq10
            have hR10 := SR.em (e_ := 0) (s := (eY n t)) (n := n) (by repeat (first | exact hR5 | refine SR.i ?_ rfl | refine SR.a ?_ rfl)) hE10
            have hg10 := FgR.em (e_ := 0) (by repeat (first | exact hg5 | refine FgR.i ?_ rfl | refine FgR.a ?_ rfl)) (s := (eY n t)) (n := n) (by repeat (first | exact hR5 | refine SR.i ?_ rfl | refine SR.a ?_ rfl)) hE10
            have hf10 := frR_em hE10
            dsimp only [Option.toList, List.cons_append, List.nil_append, Nat.beq, gI_sI, gI_sL, gI_sA, gI_sM, gL_sI, gL_sL, gL_sA, gL_sM, aI_sI, aI_sL, aI_sA, aI_sM, aL_sI, aL_sL, aL_sA, aL_sM]
            have q9_10 : gI τ10 49 = gI σ 49 := (hE10.1 49 (by decide)).trans q9_5
            have ha := SR.a5 hR10
            refine ⟨trivial, fun w11 τ11 hq11 => ?_⟩
            obtain ⟨rfl, b11, rfl, hb11⟩ := hq11 trivial
            have he11 := (XrR.s (SR.x (e_ := 0) (by repeat (first | exact hR10 | refine SR.i ?_ rfl | refine SR.a ?_ rfl)))).sg (x := 44) (d := 5) (by decide)
            rcases hb11 with ⟨rfl, hk11⟩ | ⟨rfl, hk11⟩
            · dsimp only [Option.toList, List.cons_append, List.nil_append, Nat.beq, gI_sI, gI_sL, gI_sA, gI_sM, gL_sI, gL_sL, gL_sA, gL_sM, aI_sI, aI_sL, aI_sA, aI_sM, aL_sI, aL_sL, aL_sA, aL_sM]
              have hc11 : codY (eY n t) = 5 := he11.mp hk11
              refine ⟨fun h12 => absurd h12 (by decide), fun h12 => ?_⟩
              clear h12
              refine hB _ _ _ _ _ (fun m13 hm13 => ?_)
              dsimp only [ugo, uwp, ust, uct, rfd, Bexps, Nat.beq, lv_args, rlk, rs1, rs2, rdl, rky, rcd, rno, rsw, Value.category, List.filter, List.take, List.drop, List.reverse, List.reverseAux, List.cons_append, List.nil_append, Option.toList, Int.toNat, Int.reduceToNat, if_pos, if_neg, reduceIte, ↓reduceIte, Nat.reduceAdd, Nat.reduceEqDiff, Nat.reduceBEq, beq_self_eq_true, Bool.not_true, Bool.not_false, Bool.and_true, Bool.and_false, Bool.true_and, Bool.false_and, gI_sI, gI_sL, gI_sA, gI_sM, gL_sI, gL_sL, gL_sA, gL_sM, aI_sI, aI_sL, aI_sA, aI_sM, aL_sI, aL_sL, aL_sA, aL_sM, Bexps_0, Bexps_2, Bexps_6, Bexps_13, Bexps_15, Bexps_30, Bexps_37, Bexps_39, oi_0, oi_1, oi_44, Pu_pop]; try dsimp only
              refine ⟨trivial, fun w14 τ14 hq14 => ?_⟩
              have hq14 := hq14 _ (eY n t) n ⟨(SR.x (e_ := 0) (by repeat (first | exact hR10 | refine SR.i ?_ rfl | refine SR.a ?_ rfl))), by omega, by omega⟩
              rcases hq14 with ⟨rfl, hF14⟩ | ⟨rfl, hX14, hz14, hS14⟩
              · dsimp only [Option.toList, List.cons_append, List.nil_append, Nat.beq, gI_sI, gI_sL, gI_sA, gI_sM, gL_sI, gL_sL, gL_sA, gL_sM, aI_sI, aI_sL, aI_sA, aI_sM, aL_sI, aL_sL, aL_sA, aL_sM]
                refine ⟨fun h15 => absurd h15 (by decide), fun h15 => ?_⟩
                clear h15
                refine hB _ _ _ _ _ (fun m16 hm16 => ?_)
                dsimp only [ugo, uwp, ust, uct, rfd, Bexps, Nat.beq, lv_args, rlk, rs1, rs2, rdl, rky, rcd, rno, rsw, Value.category, List.filter, List.take, List.drop, List.reverse, List.reverseAux, List.cons_append, List.nil_append, Option.toList, Int.toNat, Int.reduceToNat, if_pos, if_neg, reduceIte, ↓reduceIte, Nat.reduceAdd, Nat.reduceEqDiff, Nat.reduceBEq, beq_self_eq_true, Bool.not_true, Bool.not_false, Bool.and_true, Bool.and_false, Bool.true_and, Bool.false_and, gI_sI, gI_sL, gI_sA, gI_sM, gL_sI, gL_sL, gL_sA, gL_sM, aI_sI, aI_sL, aI_sA, aI_sM, aL_sI, aL_sL, aL_sA, aL_sM, Bexps_0, Bexps_2, Bexps_6, Bexps_13, Bexps_15, Bexps_30, Bexps_37, Bexps_39, oi_0, oi_1, oi_44, Pu_pop]; try dsimp only
                unfold Qv_exps
                try dsimp only
                refine Or.inl ⟨rfl, FlR.g hF14 ?_⟩
                rw [← hPh]
                rw [clp_one gd_e ha.1 ha.2 (by assumption)]
                exact (by repeat (first | with_reducible exact GpY.rf | with_reducible refine GpY.tr ?_ (gd_fo _) | with_reducible refine GpY.tr ?_ (gd_ef _) | with_reducible refine GpY.tr ?_ (gd_cf _) | with_reducible refine GpY.tr ?_ (gd_wt _) | with_reducible refine GpY.tr ?_ (gd_xp _) | with_reducible refine GpY.tr ?_ (gd_acc _) | with_reducible refine GpY.tr ?_ (gd_rai _) | with_reducible refine GpY.tr ?_ (gd_e _) | with_reducible refine GpY.tr ?_ (gd_o _) | with_reducible refine GpY.tr ?_ (gd_c _) | with_reducible refine GpY.tr ?_ (gd_op _) | with_reducible refine GpY.tr ?_ (gd_clp gd_e _ _) | with_reducible refine GpY.tr ?_ (gd_tl _) | with_reducible refine GpY.tr ?_ (gd_sf _ _ _) | with_reducible refine GpY.tr ?_ (gd_cl _) | with_reducible refine GpY.tr ?_ (gd_pc _) | with_reducible refine GpY.tr ?_ (gd_st _) | with_reducible refine GpY.tr ?_ (gd_rw _) | with_reducible refine GpY.tr ?_ (gd_typ _) | with_reducible refine GpY.tr ?_ (gd_dcl _) | with_reducible refine GpY.tr ?_ (gd_va2 _) | with_reducible refine GpY.tr ?_ (gd_cnd _) | with_reducible refine GpY.tr ?_ (gd_tr1 _) | with_reducible refine GpY.tr ?_ (gd_tr2 (fun _ => gd_rw) _) | with_reducible refine GpY.tr ?_ (gd_tr3 (fun _ => gd_rw) _) | with_reducible refine GpY.tr ?_ (gd_fo1 _) | with_reducible refine GpY.tr ?_ (gd_fo2 _) | with_reducible refine GpY.tr ?_ (gd_fo3 _) | with_reducible refine GpY.tr ?_ (gd_fex _) | with_reducible refine GpY.tr ?_ (pg_var.1) | with_reducible refine GpY.tr ?_ (pg_cas.1) | exact GpY.rf))
              · dsimp only [Option.toList, List.cons_append, List.nil_append, Nat.beq, gI_sI, gI_sL, gI_sA, gI_sM, gL_sI, gL_sL, gL_sA, gL_sM, aI_sI, aI_sL, aI_sA, aI_sM, aL_sI, aL_sL, aL_sA, aL_sM]
                have hR14 := SR.kr (e_ := 0) (by repeat (first | exact hR10 | refine SR.i ?_ rfl | refine SR.a ?_ rfl)) hX14 acc2
                have hg14 := FgR.kr (e_ := 0) (s := (eY n t)) (n := n) (by repeat (first | exact hg10 | refine FgR.i ?_ rfl | refine FgR.a ?_ rfl)) (by repeat (first | exact hR10 | refine SR.i ?_ rfl | refine SR.a ?_ rfl)) hX14
                have hf14 := frR_kr hX14
                have q9_14 : gI τ14 49 = gI σ 49 := (hX14.2.2.1.1 49 rfl).trans q9_10
                refine ⟨fun h17 => ?_, fun h17 => absurd h17 (by decide)⟩
                clear h17
                exact hW _ 2 [(0, .ref 1000), (1, .int 1)] _ _ _ (by simp [rdl, rky]) (loop _ (by omega) _ (accY (eY n t)) 1 (by repeat (first | exact hR14 | refine SR.i ?_ rfl | refine SR.a ?_ rfl)) (by repeat (first | exact hg14 | refine FgR.i ?_ rfl | refine FgR.a ?_ rfl)) (by simp only [frR_i, frR_a, ne_eq, Nat.reduceEqDiff, not_false_eq_true, hf14, hf10, hf5]; exact hf) q9_14 (Or.inl ⟨rfl, by rw [← hPh]; exact (clp_one gd_e ha.1 ha.2 (by assumption)).symm⟩))
            · dsimp only [Option.toList, List.cons_append, List.nil_append, Nat.beq, gI_sI, gI_sL, gI_sA, gI_sM, gL_sI, gL_sL, gL_sA, gL_sM, aI_sI, aI_sL, aI_sA, aI_sM, aL_sI, aL_sL, aL_sA, aL_sM]
              have hc11 : ¬ codY (eY n t) = 5 := fun q => hk11 (he11.mpr q)
              refine ⟨fun h18 => ?_, fun h18 => absurd h18 (by decide)⟩
              clear h18
              exact hW _ 2 [(0, .ref 1000), (1, .int 0)] _ _ _ (by simp [rdl, rky]) (loop _ (by omega) _ (eY n t) 0 (by repeat (first | exact hR10 | refine SR.i ?_ rfl | refine SR.a ?_ rfl)) (by repeat (first | exact hg10 | refine FgR.i ?_ rfl | refine FgR.a ?_ rfl)) (by simp only [frR_i, frR_a, ne_eq, Nat.reduceEqDiff, not_false_eq_true, hf10, hf5]; exact hf) q9_10 (Or.inr ⟨rfl, by rw [← hPh]; exact (clp_no (by assumption)).symm⟩))
    intro n0_
    refine hB _ _ _ _ _ (fun m1 hm1 => ?_)
    dsimp only [ugo, uwp, ust, uct, rfd, Bexps, Nat.beq, lv_args, rlk, rs1, rs2, rdl, rky, rcd, rno, rsw, Value.category, List.filter, List.take, List.drop, List.reverse, List.reverseAux, List.cons_append, List.nil_append, Option.toList, Int.toNat, Int.reduceToNat, if_pos, if_neg, reduceIte, ↓reduceIte, Nat.reduceAdd, Nat.reduceEqDiff, Nat.reduceBEq, beq_self_eq_true, Bool.not_true, Bool.not_false, Bool.and_true, Bool.and_false, Bool.true_and, Bool.false_and, gI_sI, gI_sL, gI_sA, gI_sM, gL_sI, gL_sL, gL_sA, gL_sM, aI_sI, aI_sL, aI_sA, aI_sM, aL_sI, aL_sL, aL_sA, aL_sM, Bexps_0, Bexps_2, Bexps_6, Bexps_13, Bexps_15, Bexps_30, Bexps_37, Bexps_39, oi_0, oi_1, oi_44, Pu_pop]; try dsimp only
    exact hW _ 2 [(0, .ref 1000), (1, .int 1)] _ _ _ (by simp [rdl, rky]) (loop _ _ s 1 hR hg rfl rfl (Or.inl ⟨rfl, rfl⟩))
  next => exact hP.elim
theorem w_exps : UMet 56 (fun _ _ => True) Qw_exps := fun A1 σ _ w τ h s n hP => v_exps s n A1 σ hP w τ h
