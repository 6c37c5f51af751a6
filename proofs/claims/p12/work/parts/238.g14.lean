theorem cg_st {F : List Int} {n : Nat} {s t : SpC} (h : stY n s = t) : sfY F n (stY n s) = sfY F n t := by rw [h]
theorem n1 {n : Nat} (h : 1 ≤ n) : n - 1 + 1 = n := by omega
theorem st_blk' {F : List Int} {n : Nat} {s : SpC} (hn : 1 ≤ n) (hc : codY s = 2) : sfY F n (stY n s) = sfY F n (xpY 3 (rwY (n - 1) 0 (accY s))) := by
  obtain ⟨m, rfl⟩ : ∃ m, n = m + 1 := ⟨n - 1, by omega⟩
  exact st_blk hc
theorem st_if' {F : List Int} {n : Nat} {s : SpC} (hn : 1 ≤ n) (hc : codY s = 56) : sfY F n (stY n s) = sfY (2 :: F) (n - 1) (stY (n - 1) (cndY n (accY s))) := by
  obtain ⟨m, rfl⟩ : ∃ m, n = m + 1 := ⟨n - 1, by omega⟩
  exact st_if hc
theorem st_whi' {F : List Int} {n : Nat} {s : SpC} (hn : 1 ≤ n) (hc : codY s = 58) : sfY F n (stY n s) = sfY (4 :: F) (n - 1) (stY (n - 1) (cndY n (accY s))) := by
  obtain ⟨m, rfl⟩ : ∃ m, n = m + 1 := ⟨n - 1, by omega⟩
  exact st_whi hc
theorem st_do' {F : List Int} {n : Nat} {s : SpC} (hn : 1 ≤ n) (hc : codY s = 59) : sfY F n (stY n s) = sfY (5 :: F) (n - 1) (stY (n - 1) (accY s)) := by
  obtain ⟨m, rfl⟩ : ∃ m, n = m + 1 := ⟨n - 1, by omega⟩
  exact st_do hc
theorem st_for' {F : List Int} {n : Nat} {s : SpC} (hn : 1 ≤ n) (hc : codY s = 60) : sfY F n (stY n s) = sfY (6 :: F) (n - 1) (stY (n - 1) (xpY 1 (fo3Y n (xpY 4 (fo2Y n (xpY 4 (fo1Y n (xpY 0 (accY s))))))))) := by
  obtain ⟨m, rfl⟩ : ∃ m, n = m + 1 := ⟨n - 1, by omega⟩
  exact st_for hc
theorem st_swi' {F : List Int} {n : Nat} {s : SpC} (hn : 1 ≤ n) (hc : codY s = 61) : sfY F n (stY n s) = sfY F n (xpY 3 (rwY (n - 1) 1 (xpY 2 (cndY n (accY s))))) := by
  obtain ⟨m, rfl⟩ : ∃ m, n = m + 1 := ⟨n - 1, by omega⟩
  exact st_swi hc
theorem st_try' {F : List Int} {n : Nat} {s : SpC} (hn : 1 ≤ n) (hc : codY s = 68) : sfY F n (stY n s) = sfY F n (tr3Y (rwY (n - 1)) (tr2Y (rwY (n - 1)) (tr1Y (xpY 3 (rwY (n - 1) 0 (xpY 2 (accY s))))))) := by
  obtain ⟨m, rfl⟩ : ∃ m, n = m + 1 := ⟨n - 1, by omega⟩
  exact st_try hc
theorem st_lab' {F : List Int} {n : Nat} {s : SpC} (hn : 1 ≤ n) (hc : codY s = 80) (hb : cobY s = 6) : sfY F n (stY n s) = sfY (7 :: F) (n - 1) (stY (n - 1) (xpY 6 (accY s))) := by
  obtain ⟨m, rfl⟩ : ∃ m, n = m + 1 := ⟨n - 1, by omega⟩
  exact st_lab hc hb
theorem st_sim' {n : Nat} {s : SpC} (hn : 1 ≤ n) (hc : codY s = 64 ∨ codY s = 65 ∨ codY s = 66 ∨ codY s = 67) : stY n s = xpY 4 (si3Y (codY s) (si2Y n (codY s) (accY s))) := by
  obtain ⟨m, rfl⟩ : ∃ m, n = m + 1 := ⟨n - 1, by omega⟩
  exact st_sim hc
theorem st_emp' {n : Nat} {s : SpC} (hn : 1 ≤ n) (hc : codY s = 4) : stY n s = accY s := by
  obtain ⟨m, rfl⟩ : ∃ m, n = m + 1 := ⟨n - 1, by omega⟩
  exact st_emp hc
theorem st_exp' {n : Nat} {s : SpC} (hn : 1 ≤ n) (h : ¬ codY s = 56 ∧ ¬ codY s = 58 ∧ ¬ codY s = 59 ∧ ¬ codY s = 60 ∧ ¬ codY s = 61 ∧ ¬ codY s = 68 ∧ ¬ codY s = 2 ∧ ¬ codY s = 4 ∧ ¬ codY s = 64 ∧ ¬ codY s = 65 ∧ ¬ codY s = 66 ∧ ¬ codY s = 67) (hb : ¬ (codY s = 80 ∧ cobY s = 6)) : stY n s = xpY 4 (eY n s) := by
  obtain ⟨m, rfl⟩ : ∃ m, n = m + 1 := ⟨n - 1, by omega⟩
  exact st_exp h hb
theorem cl_rw' {k : Int} {F : List Int} {n : Nat} {s : SpC} (hn : 2 ≤ n) (hk : k = 0 ∨ k = 1 ∨ k = 8 ∨ k = 11) : sfY F n (xpY 3 (rwY (n - 1) (swY k) s)) = pcY 1 (k :: F) (n - 1) s := by
  obtain ⟨m, rfl⟩ : ∃ m, n = m + 1 := ⟨n - 1, by omega⟩
  exact cl_rw (by omega) hk
theorem cl_rw9' {F : List Int} {n : Nat} {s : SpC} (hn : 2 ≤ n) : sfY F n (tr3Y (rwY (n - 1)) (tr2Y (rwY (n - 1)) (tr1Y (xpY 3 (rwY (n - 1) 0 s))))) = pcY 1 (9 :: F) (n - 1) s := by
  obtain ⟨m, rfl⟩ : ∃ m, n = m + 1 := ⟨n - 1, by omega⟩
  exact cl_rw9 (by omega)
theorem rw_0 {n : Nat} {sw : Int} {s : SpC} (h : n = 1) : rwY (n - 1) sw s = raiY 3 s := by subst h; rfl
theorem st_0 {n : Nat} {s : SpC} (h : n = 1) : stY (n - 1) s = raiY 3 s := by subst h; rfl
theorem kthx {a b : Nat} (h : b = a + 1) : a < b := by omega
def Pv_closed (s : SpC) (n : Nat) : UP1 := fun A1 σ => match A1 with
  | [.int step] => SR σ s n ∧ 0 < gI σ 62
  | _ => False
def Qv_closed (s : SpC) (n : Nat) : UQ1 := fun A1 σ w τ => match A1 with
  | [.int step] => StQ τ (sfY (frR σ).tail (n + 1) s) w
  | _ => False
def Qw_closed : UQ1 := fun A1 σ w τ => ∀ (s : SpC) (n : Nat), Pv_closed s n A1 σ → Qv_closed s n A1 σ w τ
set_option maxRecDepth 100000 in
set_option maxHeartbeats 4000000 in
theorem v_closed (s : SpC) (n : Nat) : UMet 61 (Pv_closed s n) (Qv_closed s n) := by
  refine UMet.by Bclosed [(20, Pu_emit, Qu_emit), (69, (fun _ _ => True), Qw_finished)] rfl (ucc u_emit (ucc w_finished uc0)) ?_
  intro A1 σ hP K hB hW
  unfold Pv_closed at hP
  split at hP
  next step =>
    obtain ⟨hR, hop⟩ := hP
    intro n0_
    refine hB _ _ _ _ _ (fun m1 hm1 => ?_)
    dsimp only [ugo, uwp, ust, uct, rfd, Bclosed, Nat.beq, lv_args, rlk, rs1, rs2, rdl, rky, rcd, rno, rsw, Value.category, List.filter, List.take, List.drop, List.reverse, List.reverseAux, List.cons_append, List.nil_append, Option.toList, Int.toNat, Int.reduceToNat, if_pos, if_neg, reduceIte, ↓reduceIte, Nat.reduceAdd, Nat.reduceEqDiff, Nat.reduceBEq, beq_self_eq_true, Bool.not_true, Bool.not_false, Bool.and_true, Bool.and_false, Bool.true_and, Bool.false_and, gI_sI, gI_sL, gI_sA, gI_sM, gL_sI, gL_sL, gL_sA, gL_sM, aI_sI, aI_sL, aI_sA, aI_sM, aL_sI, aL_sL, aL_sA, aL_sM, Bclosed_0, oi_1, oi_45, Pu_emit]; try dsimp only
    intro p2
    refine ⟨trivial, fun w3 τ3 hq3 => ?_⟩
    obtain ⟨rfl, hE3⟩ := hq3
    have hR3 := SR.em (e_ := 0) (s := s) (n := n) hR hE3
    have hf3 := frR_em hE3
    dsimp only [Option.toList, List.cons_append, List.nil_append, Nat.beq, gI_sI, gI_sL, gI_sA, gI_sM, gL_sI, gL_sL, gL_sA, gL_sM, aI_sI, aI_sL, aI_sA, aI_sM, aL_sI, aL_sL, aL_sA, aL_sM]
    have h62_ : 0 < gI τ3 62 := by rw [hE3.1 62 (by decide)]; exact hop
    obtain ⟨hRp, hgp⟩ := SR.pop hR3 h62_
    have hFp := frR_pop h62_
    refine ⟨trivial, fun w4 τ4 hq4 => ?_⟩
    have hq4 : StQ τ4 _ w4 := hq4 s (n + 1) ⟨(by repeat (first | exact hRp | refine SR.i ?_ rfl | refine SR.a ?_ rfl)), (by repeat (first | exact hgp | refine FgR.i ?_ rfl | refine FgR.a ?_ rfl))⟩
    have hv4 : w4 = some (.int 0) ∨ w4 = some (.int 1) := hq4.imp (fun q => q.1) (fun q => q.1)
    rcases hv4 with rfl | rfl
    · dsimp only [Option.toList, List.cons_append, List.nil_append, Nat.beq, gI_sI, gI_sL, gI_sA, gI_sM, gL_sI, gL_sL, gL_sA, gL_sM, aI_sI, aI_sL, aI_sA, aI_sM, aL_sI, aL_sL, aL_sA, aL_sM]
      unfold Qv_closed
      try dsimp only
      have e : (frR σ).tail = frR (sI τ3 62 (gI τ3 62 - 1)) := by rw [← hf3, hFp]; rfl
      rw [e]
      have hq_ := hq4
      rw [frR_i (by decide)] at hq_
      exact hq_
    · dsimp only [Option.toList, List.cons_append, List.nil_append, Nat.beq, gI_sI, gI_sL, gI_sA, gI_sM, gL_sI, gL_sL, gL_sA, gL_sM, aI_sI, aI_sL, aI_sA, aI_sM, aL_sI, aL_sL, aL_sA, aL_sM]
      unfold Qv_closed
      try dsimp only
      have e : (frR σ).tail = frR (sI τ3 62 (gI τ3 62 - 1)) := by rw [← hf3, hFp]; rfl
      rw [e]
      have hq_ := hq4
      rw [frR_i (by decide)] at hq_
      exact hq_
  next => exact hP.elim
theorem w_closed : UMet 61 (fun _ _ => True) Qw_closed := fun A1 σ _ w τ h s n hP => v_closed s n A1 σ hP w τ h
def Pv_plain (s : SpC) (n : Nat) : UP1 := fun A1 σ => match A1 with
  | [] => SR σ s n ∧ FgR σ 0 ∧ frR σ ≠ [] ∧ (¬ codY s = 56 ∧ ¬ codY s = 58 ∧ ¬ codY s = 59 ∧ ¬ codY s = 60 ∧ ¬ codY s = 61 ∧ ¬ codY s = 68 ∧ ¬ codY s = 2 ∧ ¬ codY s = 64 ∧ ¬ codY s = 65 ∧ ¬ codY s = 66 ∧ ¬ codY s = 67 ∧ ¬ (codY s = 80 ∧ cobY s = 6))
  | _ => False
def Qv_plain (s : SpC) (n : Nat) : UQ1 := fun A1 σ w τ => match A1 with
  | [] => StQ τ (sfY (frR σ) n (stY n s)) w
  | _ => False
def Qw_plain : UQ1 := fun A1 σ w τ => ∀ (s : SpC) (n : Nat), Pv_plain s n A1 σ → Qv_plain s n A1 σ w τ
set_option maxRecDepth 100000 in
set_option maxHeartbeats 4000000 in
theorem v_plain (s : SpC) (n : Nat) : UMet 50 (Pv_plain s n) (Qv_plain s n) := by
  refine UMet.by Bplain [(20, Pu_emit, Qu_emit), (27, (fun _ _ => True), Qw_expression), (69, (fun _ _ => True), Qw_finished), (14, (fun _ _ => True), Qw_isSign), (51, Pu_pop, Qu_pop), (18, (fun _ _ => True), Qw_want)] rfl (ucc u_emit (ucc w_expression (ucc w_finished (ucc w_isSign (ucc u_pop (ucc w_want uc0)))))) ?_
  intro A1 σ hP K hB hW
  unfold Pv_plain at hP
  split at hP
  next =>
    obtain ⟨hR, hg, hne, hcx⟩ := hP
    have hnn := hR.2.1
    have hm6 := hR.2.2.1.2.2.resolve_left hne
    intro n0_
    refine hB _ _ _ _ _ (fun m1 hm1 => ?_)
    dsimp only [ugo, uwp, ust, uct, rfd, Bplain, Nat.beq, lv_args, rlk, rs1, rs2, rdl, rky, rcd, rno, rsw, Value.category, List.filter, List.take, List.drop, List.reverse, List.reverseAux, List.cons_append, List.nil_append, Option.toList, Int.toNat, Int.reduceToNat, if_pos, if_neg, reduceIte, ↓reduceIte, Nat.reduceAdd, Nat.reduceEqDiff, Nat.reduceBEq, beq_self_eq_true, Bool.not_true, Bool.not_false, Bool.and_true, Bool.and_false, Bool.true_and, Bool.false_and, gI_sI, gI_sL, gI_sA, gI_sM, gL_sI, gL_sL, gL_sA, gL_sM, aI_sI, aI_sL, aI_sA, aI_sM, aL_sI, aL_sL, aL_sA, aL_sM, Bplain_0, Bplain_21, Bplain_28, Bplain_30, Bplain_34, Bplain_43, Bplain_45, oi_0, oi_20, oi_45, oi_59, Pu_emit, Pu_pop]; try dsimp only
    refine ⟨trivial, fun w2 τ2 hq2 => ?_⟩
    obtain ⟨rfl, hE2⟩ := hq2
    have hR2 := SR.em (e_ := 0) (s := s) (n := n) (by repeat (first | exact hR | refine SR.i ?_ rfl | refine SR.a ?_ rfl)) hE2
    have hg2 := FgR.em (e_ := 0) (by repeat (first | exact hg | refine FgR.i ?_ rfl | refine FgR.a ?_ rfl)) (s := s) (n := n) (by repeat (first | exact hR | refine SR.i ?_ rfl | refine SR.a ?_ rfl)) hE2
    have hf2 := frR_em hE2
    dsimp only [Option.toList, List.cons_append, List.nil_append, Nat.beq, gI_sI, gI_sL, gI_sA, gI_sM, gL_sI, gL_sL, gL_sA, gL_sM, aI_sI, aI_sL, aI_sA, aI_sM, aL_sI, aL_sL, aL_sA, aL_sM]
    have k6_2 : 0 < gI τ2 36 := by rw [hE2.1 36 (by decide)]; exact hm6
    refine ⟨trivial, fun w3 τ3 hq3 => ?_⟩
    obtain ⟨rfl, b3, rfl, hb3⟩ := hq3 trivial
    have he3 := (XrR.s (SR.x (e_ := 0) (by repeat (first | exact hR2 | refine SR.i ?_ rfl | refine SR.a ?_ rfl)))).sg (x := 59) (d := 4) (by decide)
    rcases hb3 with ⟨rfl, hk3⟩ | ⟨rfl, hk3⟩
    · dsimp only [Option.toList, List.cons_append, List.nil_append, Nat.beq, gI_sI, gI_sL, gI_sA, gI_sM, gL_sI, gL_sL, gL_sA, gL_sM, aI_sI, aI_sL, aI_sA, aI_sM, aL_sI, aL_sL, aL_sA, aL_sM]
      have hc3 : codY s = 4 := he3.mp hk3
      have hc4 : codY s = 4 := hc3
      refine ⟨fun h4 => ?_, fun h4 => absurd h4 (by decide)⟩
      clear h4
      refine hB _ _ _ _ _ (fun m5 hm5 => ?_)
      dsimp only [ugo, uwp, ust, uct, rfd, Bplain, Nat.beq, lv_args, rlk, rs1, rs2, rdl, rky, rcd, rno, rsw, Value.category, List.filter, List.take, List.drop, List.reverse, List.reverseAux, List.cons_append, List.nil_append, Option.toList, Int.toNat, Int.reduceToNat, if_pos, if_neg, reduceIte, ↓reduceIte, Nat.reduceAdd, Nat.reduceEqDiff, Nat.reduceBEq, beq_self_eq_true, Bool.not_true, Bool.not_false, Bool.and_true, Bool.and_false, Bool.true_and, Bool.false_and, gI_sI, gI_sL, gI_sA, gI_sM, gL_sI, gL_sL, gL_sA, gL_sM, aI_sI, aI_sL, aI_sA, aI_sM, aL_sI, aL_sL, aL_sA, aL_sM, Bplain_0, Bplain_21, Bplain_28, Bplain_30, Bplain_34, Bplain_43, Bplain_45, oi_0, oi_20, oi_45, oi_59, Pu_emit, Pu_pop]; try dsimp only
      refine ⟨trivial, fun w6 τ6 hq6 => ?_⟩
      have hq6 := hq6 _ s n 4 ⟨(SR.x (e_ := 0) (by repeat (first | exact hR2 | refine SR.i ?_ rfl | refine SR.a ?_ rfl))), by decide⟩
      rcases hq6 with ⟨rfl, hF6⟩ | ⟨rfl, hc6, hX6, hz6, hS6⟩
      · dsimp only [Option.toList, List.cons_append, List.nil_append, Nat.beq, gI_sI, gI_sL, gI_sA, gI_sM, gL_sI, gL_sL, gL_sA, gL_sM, aI_sI, aI_sL, aI_sA, aI_sM, aL_sI, aL_sL, aL_sA, aL_sM]
        refine ⟨fun h7 => absurd h7 (by decide), fun h7 => ?_⟩
        clear h7
        refine hB _ _ _ _ _ (fun m8 hm8 => ?_)
        dsimp only [ugo, uwp, ust, uct, rfd, Bplain, Nat.beq, lv_args, rlk, rs1, rs2, rdl, rky, rcd, rno, rsw, Value.category, List.filter, List.take, List.drop, List.reverse, List.reverseAux, List.cons_append, List.nil_append, Option.toList, Int.toNat, Int.reduceToNat, if_pos, if_neg, reduceIte, ↓reduceIte, Nat.reduceAdd, Nat.reduceEqDiff, Nat.reduceBEq, beq_self_eq_true, Bool.not_true, Bool.not_false, Bool.and_true, Bool.and_false, Bool.true_and, Bool.false_and, gI_sI, gI_sL, gI_sA, gI_sM, gL_sI, gL_sL, gL_sA, gL_sM, aI_sI, aI_sL, aI_sA, aI_sM, aL_sI, aL_sL, aL_sA, aL_sM, Bplain_0, Bplain_21, Bplain_28, Bplain_30, Bplain_34, Bplain_43, Bplain_45, oi_0, oi_20, oi_45, oi_59, Pu_emit, Pu_pop]; try dsimp only
        unfold Qv_plain
        try dsimp only
        rw [cg_st (st_emp' hnn.2.1 hc4)]
        rw [xp_y hc4] at hF6
        refine StQ.f hF6 ?_
        exact (by repeat (first | with_reducible exact GpY.rf | with_reducible refine GpY.tr ?_ (gd_fo _) | with_reducible refine GpY.tr ?_ (gd_ef _) | with_reducible refine GpY.tr ?_ (gd_cf _) | with_reducible refine GpY.tr ?_ (gd_wt _) | with_reducible refine GpY.tr ?_ (gd_xp _) | with_reducible refine GpY.tr ?_ (gd_acc _) | with_reducible refine GpY.tr ?_ (gd_rai _) | with_reducible refine GpY.tr ?_ (gd_e _) | with_reducible refine GpY.tr ?_ (gd_o _) | with_reducible refine GpY.tr ?_ (gd_c _) | with_reducible refine GpY.tr ?_ (gd_op _) | with_reducible refine GpY.tr ?_ (gd_clp gd_e _ _) | with_reducible refine GpY.tr ?_ (gd_tl _) | with_reducible refine GpY.tr ?_ (gd_sf _ _ _) | with_reducible refine GpY.tr ?_ (gd_cl _) | with_reducible refine GpY.tr ?_ (gd_pc _) | with_reducible refine GpY.tr ?_ (gd_st _) | with_reducible refine GpY.tr ?_ (gd_rw _) | with_reducible refine GpY.tr ?_ (gd_typ _) | with_reducible refine GpY.tr ?_ (gd_dcl _) | with_reducible refine GpY.tr ?_ (gd_va2 _) | with_reducible refine GpY.tr ?_ (gd_cnd _) | with_reducible refine GpY.tr ?_ (gd_tr1 _) | with_reducible refine GpY.tr ?_ (gd_tr2 (fun _ => gd_rw) _) | with_reducible refine GpY.tr ?_ (gd_tr3 (fun _ => gd_rw) _) | with_reducible refine GpY.tr ?_ (gd_fo1 _) | with_reducible refine GpY.tr ?_ (gd_fo2 _) | with_reducible refine GpY.tr ?_ (gd_fo3 _) | with_reducible refine GpY.tr ?_ (gd_fex _) | with_reducible refine GpY.tr ?_ (pg_var.1) | with_reducible refine GpY.tr ?_ (pg_cas.1) | exact GpY.rf))
      · dsimp only [Option.toList, List.cons_append, List.nil_append, Nat.beq, gI_sI, gI_sL, gI_sA, gI_sM, gL_sI, gL_sL, gL_sA, gL_sM, aI_sI, aI_sL, aI_sA, aI_sM, aL_sI, aL_sL, aL_sA, aL_sM]
        have hR6 := SR.kr (e_ := 0) (by repeat (first | exact hR2 | refine SR.i ?_ rfl | refine SR.a ?_ rfl)) hX6 acc2
        have hg6 := FgR.kr (e_ := 0) (s := s) (n := n) (by repeat (first | exact hg2 | refine FgR.i ?_ rfl | refine FgR.a ?_ rfl)) (by repeat (first | exact hR2 | refine SR.i ?_ rfl | refine SR.a ?_ rfl)) hX6
        have hf6 := frR_kr hX6
        have k6_6 : 0 < gI τ6 36 := by rw [hX6.2.2.1.1 36 rfl]; exact k6_2
        refine ⟨fun h9 => ?_, fun h9 => absurd h9 (by decide)⟩
        clear h9
        refine hB _ _ _ _ _ (fun m10 hm10 => ?_)
        dsimp only [ugo, uwp, ust, uct, rfd, Bplain, Nat.beq, lv_args, rlk, rs1, rs2, rdl, rky, rcd, rno, rsw, Value.category, List.filter, List.take, List.drop, List.reverse, List.reverseAux, List.cons_append, List.nil_append, Option.toList, Int.toNat, Int.reduceToNat, if_pos, if_neg, reduceIte, ↓reduceIte, Nat.reduceAdd, Nat.reduceEqDiff, Nat.reduceBEq, beq_self_eq_true, Bool.not_true, Bool.not_false, Bool.and_true, Bool.and_false, Bool.true_and, Bool.false_and, gI_sI, gI_sL, gI_sA, gI_sM, gL_sI, gL_sL, gL_sA, gL_sM, aI_sI, aI_sL, aI_sA, aI_sM, aL_sI, aL_sL, aL_sA, aL_sM, Bplain_0, Bplain_21, Bplain_28, Bplain_30, Bplain_34, Bplain_43, Bplain_45, oi_0, oi_20, oi_45, oi_59, Pu_emit, Pu_pop]; try dsimp only
        intro p11
        refine ⟨trivial, fun w12 τ12 hq12 => ?_⟩
        obtain ⟨rfl, hE12⟩ := hq12
        have hR12 := SR.em (e_ := 0) (s := (accY s)) (n := n) (by repeat (first | exact hR6 | refine SR.i ?_ rfl | refine SR.a ?_ rfl)) hE12
        have hg12 := FgR.em (e_ := 0) (by repeat (first | exact hg6 | refine FgR.i ?_ rfl | refine FgR.a ?_ rfl)) (s := (accY s)) (n := n) (by repeat (first | exact hR6 | refine SR.i ?_ rfl | refine SR.a ?_ rfl)) hE12
        have hf12 := frR_em hE12
        dsimp only [Option.toList, List.cons_append, List.nil_append, Nat.beq, gI_sI, gI_sL, gI_sA, gI_sM, gL_sI, gL_sL, gL_sA, gL_sM, aI_sI, aI_sL, aI_sA, aI_sM, aL_sI, aL_sL, aL_sA, aL_sM]
        have k6_12 : 0 < gI τ12 36 := by rw [hE12.1 36 (by decide)]; exact k6_6
        refine ⟨trivial, fun w13 τ13 hq13 => ?_⟩
        have hq13 : StQ τ13 _ w13 := hq13 (accY s) n ⟨(by repeat (first | exact hR12 | refine SR.i ?_ rfl | refine SR.a ?_ rfl)), (by repeat (first | exact hg12 | refine FgR.i ?_ rfl | refine FgR.a ?_ rfl))⟩
        have hv13 : w13 = some (.int 0) ∨ w13 = some (.int 1) := hq13.imp (fun q => q.1) (fun q => q.1)
        rcases hv13 with rfl | rfl
        · dsimp only [Option.toList, List.cons_append, List.nil_append, Nat.beq, gI_sI, gI_sL, gI_sA, gI_sM, gL_sI, gL_sL, gL_sA, gL_sM, aI_sI, aI_sL, aI_sA, aI_sM, aL_sI, aL_sL, aL_sA, aL_sM]
          unfold Qv_plain
          try dsimp only
          rw [cg_st (st_emp' hnn.2.1 hc4)]
          first | exact hq13 | (have hq_ := hq13; (try simp only [frR_i, frR_a, ne_eq, Nat.reduceEqDiff, not_false_eq_true, hf12, hf6, hf2] at hq_); exact hq_)
        · dsimp only [Option.toList, List.cons_append, List.nil_append, Nat.beq, gI_sI, gI_sL, gI_sA, gI_sM, gL_sI, gL_sL, gL_sA, gL_sM, aI_sI, aI_sL, aI_sA, aI_sM, aL_sI, aL_sL, aL_sA, aL_sM]
          unfold Qv_plain
          try dsimp only
          rw [cg_st (st_emp' hnn.2.1 hc4)]
          first | exact hq13 | (have hq_ := hq13; (try simp only [frR_i, frR_a, ne_eq, Nat.reduceEqDiff, not_false_eq_true, hf12, hf6, hf2] at hq_); exact hq_)
    · dsimp only [Option.toList, List.cons_append, List.nil_append, Nat.beq, gI_sI, gI_sL, gI_sA, gI_sM, gL_sI, gL_sL, gL_sA, gL_sM, aI_sI, aI_sL, aI_sA, aI_sM, aL_sI, aL_sL, aL_sA, aL_sM]
      have hc3 : ¬ codY s = 4 := fun q => hk3 (he3.mpr q)
      refine ⟨fun h14 => absurd h14 (by decide), fun h14 => ?_⟩
      clear h14
      refine hB _ _ _ _ _ (fun m15 hm15 => ?_)
      dsimp only [ugo, uwp, ust, uct, rfd, Bplain, Nat.beq, lv_args, rlk, rs1, rs2, rdl, rky, rcd, rno, rsw, Value.category, List.filter, List.take, List.drop, List.reverse, List.reverseAux, List.cons_append, List.nil_append, Option.toList, Int.toNat, Int.reduceToNat, if_pos, if_neg, reduceIte, ↓reduceIte, Nat.reduceAdd, Nat.reduceEqDiff, Nat.reduceBEq, beq_self_eq_true, Bool.not_true, Bool.not_false, Bool.and_true, Bool.and_false, Bool.true_and, Bool.false_and, gI_sI, gI_sL, gI_sA, gI_sM, gL_sI, gL_sL, gL_sA, gL_sM, aI_sI, aI_sL, aI_sA, aI_sM, aL_sI, aL_sL, aL_sA, aL_sM, Bplain_0, Bplain_21, Bplain_28, Bplain_30, Bplain_34, Bplain_43, Bplain_45, oi_0, oi_20, oi_45, oi_59, Pu_emit, Pu_pop]; try dsimp only
      refine ⟨trivial, fun w16 τ16 hq16 => ?_⟩
      have hq16 := hq16 _ s n ⟨(SR.x (e_ := 0) (by repeat (first | exact hR2 | refine SR.i ?_ rfl | refine SR.a ?_ rfl))), by omega⟩
      rcases hq16 with ⟨rfl, hF16⟩ | ⟨rfl, hX16, hs2_16⟩
      · dsimp only [Option.toList, List.cons_append, List.nil_append, Nat.beq, gI_sI, gI_sL, gI_sA, gI_sM, gL_sI, gL_sL, gL_sA, gL_sM, aI_sI, aI_sL, aI_sA, aI_sM, aL_sI, aL_sL, aL_sA, aL_sM]
        refine ⟨fun h17 => absurd h17 (by decide), fun h17 => ?_⟩
        clear h17
        refine hB _ _ _ _ _ (fun m18 hm18 => ?_)
        dsimp only [ugo, uwp, ust, uct, rfd, Bplain, Nat.beq, lv_args, rlk, rs1, rs2, rdl, rky, rcd, rno, rsw, Value.category, List.filter, List.take, List.drop, List.reverse, List.reverseAux, List.cons_append, List.nil_append, Option.toList, Int.toNat, Int.reduceToNat, if_pos, if_neg, reduceIte, ↓reduceIte, Nat.reduceAdd, Nat.reduceEqDiff, Nat.reduceBEq, beq_self_eq_true, Bool.not_true, Bool.not_false, Bool.and_true, Bool.and_false, Bool.true_and, Bool.false_and, gI_sI, gI_sL, gI_sA, gI_sM, gL_sI, gL_sL, gL_sA, gL_sM, aI_sI, aI_sL, aI_sA, aI_sM, aL_sI, aL_sL, aL_sA, aL_sM, Bplain_0, Bplain_21, Bplain_28, Bplain_30, Bplain_34, Bplain_43, Bplain_45, oi_0, oi_20, oi_45, oi_59, Pu_emit, Pu_pop]; try dsimp only
        unfold Qv_plain
        try dsimp only
        rw [cg_st (st_exp' hnn.2.1 (by omega) (by omega))]
        refine StQ.f hF16 ?_
        exact (by repeat (first | with_reducible exact GpY.rf | with_reducible refine GpY.tr ?_ (gd_fo _) | with_reducible refine GpY.tr ?_ (gd_ef _) | with_reducible refine GpY.tr ?_ (gd_cf _) | with_reducible refine GpY.tr ?_ (gd_wt _) | with_reducible refine GpY.tr ?_ (gd_xp _) | with_reducible refine GpY.tr ?_ (gd_acc _) | with_reducible refine GpY.tr ?_ (gd_rai _) | with_reducible refine GpY.tr ?_ (gd_e _) | with_reducible refine GpY.tr ?_ (gd_o _) | with_reducible refine GpY.tr ?_ (gd_c _) | with_reducible refine GpY.tr ?_ (gd_op _) | with_reducible refine GpY.tr ?_ (gd_clp gd_e _ _) | with_reducible refine GpY.tr ?_ (gd_tl _) | with_reducible refine GpY.tr ?_ (gd_sf _ _ _) | with_reducible refine GpY.tr ?_ (gd_cl _) | with_reducible refine GpY.tr ?_ (gd_pc _) | with_reducible refine GpY.tr ?_ (gd_st _) | with_reducible refine GpY.tr ?_ (gd_rw _) | with_reducible refine GpY.tr ?_ (gd_typ _) | with_reducible refine GpY.tr ?_ (gd_dcl _) | with_reducible refine GpY.tr ?_ (gd_va2 _) | with_reducible refine GpY.tr ?_ (gd_cnd _) | with_reducible refine GpY.tr ?_ (gd_tr1 _) | with_reducible refine GpY.tr ?_ (gd_tr2 (fun _ => gd_rw) _) | with_reducible refine GpY.tr ?_ (gd_tr3 (fun _ => gd_rw) _) | with_reducible refine GpY.tr ?_ (gd_fo1 _) | with_reducible refine GpY.tr ?_ (gd_fo2 _) | with_reducible refine GpY.tr ?_ (gd_fo3 _) | with_reducible refine GpY.tr ?_ (gd_fex _) | with_reducible refine GpY.tr ?_ (pg_var.1) | with_reducible refine GpY.tr ?_ (pg_cas.1) | exact GpY.rf))
      · dsimp only [Option.toList, List.cons_append, List.nil_append, Nat.beq, gI_sI, gI_sL, gI_sA, gI_sM, gL_sI, gL_sL, gL_sA, gL_sM, aI_sI, aI_sL, aI_sA, aI_sM, aL_sI, aL_sL, aL_sA, aL_sM]
        have hR16 := SR.kr (e_ := 0) (by repeat (first | exact hR2 | refine SR.i ?_ rfl | refine SR.a ?_ rfl)) hX16 hs2_16
        have hg16 := FgR.kr (e_ := 0) (s := s) (n := n) (by repeat (first | exact hg2 | refine FgR.i ?_ rfl | refine FgR.a ?_ rfl)) (by repeat (first | exact hR2 | refine SR.i ?_ rfl | refine SR.a ?_ rfl)) hX16
        have hf16 := frR_kr hX16
        have k6_16 : 0 < gI τ16 36 := by rw [hX16.2.2.1.1 36 rfl]; exact k6_2
        refine ⟨fun h19 => ?_, fun h19 => absurd h19 (by decide)⟩
        clear h19
        refine hB _ _ _ _ _ (fun m20 hm20 => ?_)
        dsimp only [ugo, uwp, ust, uct, rfd, Bplain, Nat.beq, lv_args, rlk, rs1, rs2, rdl, rky, rcd, rno, rsw, Value.category, List.filter, List.take, List.drop, List.reverse, List.reverseAux, List.cons_append, List.nil_append, Option.toList, Int.toNat, Int.reduceToNat, if_pos, if_neg, reduceIte, ↓reduceIte, Nat.reduceAdd, Nat.reduceEqDiff, Nat.reduceBEq, beq_self_eq_true, Bool.not_true, Bool.not_false, Bool.and_true, Bool.and_false, Bool.true_and, Bool.false_and, gI_sI, gI_sL, gI_sA, gI_sM, gL_sI, gL_sL, gL_sA, gL_sM, aI_sI, aI_sL, aI_sA, aI_sM, aL_sI, aL_sL, aL_sA, aL_sM, Bplain_0, Bplain_21, Bplain_28, Bplain_30, Bplain_34, Bplain_43, Bplain_45, oi_0, oi_20, oi_45, oi_59, Pu_emit, Pu_pop]; try dsimp only
        refine ⟨trivial, fun w21 τ21 hq21 => ?_⟩
        obtain ⟨rfl, a21, hE21⟩ := hq21
        have hR21 := SR.em (e_ := 0) (s := (eY n s)) (n := n) (by repeat (first | exact hR16 | refine SR.i ?_ rfl | refine SR.a ?_ rfl)) hE21
        have hg21 := FgR.em (e_ := 0) (by repeat (first | exact hg16 | refine FgR.i ?_ rfl | refine FgR.a ?_ rfl)) (s := (eY n s)) (n := n) (by repeat (first | exact hR16 | refine SR.i ?_ rfl | refine SR.a ?_ rfl)) hE21
        have hf21 := frR_em hE21
        dsimp only [Option.toList, List.cons_append, List.nil_append, Nat.beq, gI_sI, gI_sL, gI_sA, gI_sM, gL_sI, gL_sL, gL_sA, gL_sM, aI_sI, aI_sL, aI_sA, aI_sM, aL_sI, aL_sL, aL_sA, aL_sM]
        have k6_21 : 0 < gI τ21 36 := by rw [hE21.1 36 (by decide)]; exact k6_16
        refine hB _ _ _ _ _ (fun m22 hm22 => ?_)
        dsimp only [ugo, uwp, ust, uct, rfd, Bplain, Nat.beq, lv_args, rlk, rs1, rs2, rdl, rky, rcd, rno, rsw, Value.category, List.filter, List.take, List.drop, List.reverse, List.reverseAux, List.cons_append, List.nil_append, Option.toList, Int.toNat, Int.reduceToNat, if_pos, if_neg, reduceIte, ↓reduceIte, Nat.reduceAdd, Nat.reduceEqDiff, Nat.reduceBEq, beq_self_eq_true, Bool.not_true, Bool.not_false, Bool.and_true, Bool.and_false, Bool.true_and, Bool.false_and, gI_sI, gI_sL, gI_sA, gI_sM, gL_sI, gL_sL, gL_sA, gL_sM, aI_sI, aI_sL, aI_sA, aI_sM, aL_sI, aL_sL, aL_sA, aL_sM, Bplain_0, Bplain_21, Bplain_28, Bplain_30, Bplain_34, Bplain_43, Bplain_45, oi_0, oi_20, oi_45, oi_59, Pu_emit, Pu_pop]; try dsimp only
        refine ⟨trivial, fun w23 τ23 hq23 => ?_⟩
        have hq23 := hq23 _ (eY n s) n 4 ⟨(SR.x (e_ := 0) (by repeat (first | exact hR21 | refine SR.i ?_ rfl | refine SR.a ?_ rfl))), by decide⟩
        rcases hq23 with ⟨rfl, hF23⟩ | ⟨rfl, hc23, hX23, hz23, hS23⟩
        · dsimp only [Option.toList, List.cons_append, List.nil_append, Nat.beq, gI_sI, gI_sL, gI_sA, gI_sM, gL_sI, gL_sL, gL_sA, gL_sM, aI_sI, aI_sL, aI_sA, aI_sM, aL_sI, aL_sL, aL_sA, aL_sM]
          refine ⟨fun h24 => absurd h24 (by decide), fun h24 => ?_⟩
          clear h24
          refine hB _ _ _ _ _ (fun m25 hm25 => ?_)
          dsimp only [ugo, uwp, ust, uct, rfd, Bplain, Nat.beq, lv_args, rlk, rs1, rs2, rdl, rky, rcd, rno, rsw, Value.category, List.filter, List.take, List.drop, List.reverse, List.reverseAux, List.cons_append, List.nil_append, Option.toList, Int.toNat, Int.reduceToNat, if_pos, if_neg, reduceIte, ↓reduceIte, Nat.reduceAdd, Nat.reduceEqDiff, Nat.reduceBEq, beq_self_eq_true, Bool.not_true, Bool.not_false, Bool.and_true, Bool.and_false, Bool.true_and, Bool.false_and, gI_sI, gI_sL, gI_sA, gI_sM, gL_sI, gL_sL, gL_sA, gL_sM, aI_sI, aI_sL, aI_sA, aI_sM, aL_sI, aL_sL, aL_sA, aL_sM, Bplain_0, Bplain_21, Bplain_28, Bplain_30, Bplain_34, Bplain_43, Bplain_45, oi_0, oi_20, oi_45, oi_59, Pu_emit, Pu_pop]; try dsimp only
          unfold Qv_plain
          try dsimp only
          rw [cg_st (st_exp' hnn.2.1 (by omega) (by omega))]
          refine StQ.f hF23 ?_
          exact (by repeat (first | with_reducible exact GpY.rf | with_reducible refine GpY.tr ?_ (gd_fo _) | with_reducible refine GpY.tr ?_ (gd_ef _) | with_reducible refine GpY.tr ?_ (gd_cf _) | with_reducible refine GpY.tr ?_ (gd_wt _) | with_reducible refine GpY.tr ?_ (gd_xp _) | with_reducible refine GpY.tr ?_ (gd_acc _) | with_reducible refine GpY.tr ?_ (gd_rai _) | with_reducible refine GpY.tr ?_ (gd_e _) | with_reducible refine GpY.tr ?_ (gd_o _) | with_reducible refine GpY.tr ?_ (gd_c _) | with_reducible refine GpY.tr ?_ (gd_op _) | with_reducible refine GpY.tr ?_ (gd_clp gd_e _ _) | with_reducible refine GpY.tr ?_ (gd_tl _) | with_reducible refine GpY.tr ?_ (gd_sf _ _ _) | with_reducible refine GpY.tr ?_ (gd_cl _) | with_reducible refine GpY.tr ?_ (gd_pc _) | with_reducible refine GpY.tr ?_ (gd_st _) | with_reducible refine GpY.tr ?_ (gd_rw _) | with_reducible refine GpY.tr ?_ (gd_typ _) | with_reducible refine GpY.tr ?_ (gd_dcl _) | with_reducible refine GpY.tr ?_ (gd_va2 _) | with_reducible refine GpY.tr ?_ (gd_cnd _) | with_reducible refine GpY.tr ?_ (gd_tr1 _) | with_reducible refine GpY.tr ?_ (gd_tr2 (fun _ => gd_rw) _) | with_reducible refine GpY.tr ?_ (gd_tr3 (fun _ => gd_rw) _) | with_reducible refine GpY.tr ?_ (gd_fo1 _) | with_reducible refine GpY.tr ?_ (gd_fo2 _) | with_reducible refine GpY.tr ?_ (gd_fo3 _) | with_reducible refine GpY.tr ?_ (gd_fex _) | with_reducible refine GpY.tr ?_ (pg_var.1) | with_reducible refine GpY.tr ?_ (pg_cas.1) | exact GpY.rf))
        · dsimp only [Option.toList, List.cons_append, List.nil_append, Nat.beq, gI_sI, gI_sL, gI_sA, gI_sM, gL_sI, gL_sL, gL_sA, gL_sM, aI_sI, aI_sL, aI_sA, aI_sM, aL_sI, aL_sL, aL_sA, aL_sM]
          have hR23 := SR.kr (e_ := 0) (by repeat (first | exact hR21 | refine SR.i ?_ rfl | refine SR.a ?_ rfl)) hX23 acc2
          have hg23 := FgR.kr (e_ := 0) (s := (eY n s)) (n := n) (by repeat (first | exact hg21 | refine FgR.i ?_ rfl | refine FgR.a ?_ rfl)) (by repeat (first | exact hR21 | refine SR.i ?_ rfl | refine SR.a ?_ rfl)) hX23
          have hf23 := frR_kr hX23
          have k6_23 : 0 < gI τ23 36 := by rw [hX23.2.2.1.1 36 rfl]; exact k6_21
          refine ⟨fun h26 => ?_, fun h26 => absurd h26 (by decide)⟩
          clear h26
          refine hB _ _ _ _ _ (fun m27 hm27 => ?_)
          dsimp only [ugo, uwp, ust, uct, rfd, Bplain, Nat.beq, lv_args, rlk, rs1, rs2, rdl, rky, rcd, rno, rsw, Value.category, List.filter, List.take, List.drop, List.reverse, List.reverseAux, List.cons_append, List.nil_append, Option.toList, Int.toNat, Int.reduceToNat, if_pos, if_neg, reduceIte, ↓reduceIte, Nat.reduceAdd, Nat.reduceEqDiff, Nat.reduceBEq, beq_self_eq_true, Bool.not_true, Bool.not_false, Bool.and_true, Bool.and_false, Bool.true_and, Bool.false_and, gI_sI, gI_sL, gI_sA, gI_sM, gL_sI, gL_sL, gL_sA, gL_sM, aI_sI, aI_sL, aI_sA, aI_sM, aL_sI, aL_sL, aL_sA, aL_sM, Bplain_0, Bplain_21, Bplain_28, Bplain_30, Bplain_34, Bplain_43, Bplain_45, oi_0, oi_20, oi_45, oi_59, Pu_emit, Pu_pop]; try dsimp only
          intro p28
          refine ⟨trivial, fun w29 τ29 hq29 => ?_⟩
          obtain ⟨rfl, hE29⟩ := hq29
          have hR29 := SR.em (e_ := 0) (s := (accY (eY n s))) (n := n) (by repeat (first | exact hR23 | refine SR.i ?_ rfl | refine SR.a ?_ rfl)) hE29
          have hg29 := FgR.em (e_ := 0) (by repeat (first | exact hg23 | refine FgR.i ?_ rfl | refine FgR.a ?_ rfl)) (s := (accY (eY n s))) (n := n) (by repeat (first | exact hR23 | refine SR.i ?_ rfl | refine SR.a ?_ rfl)) hE29
          have hf29 := frR_em hE29
          dsimp only [Option.toList, List.cons_append, List.nil_append, Nat.beq, gI_sI, gI_sL, gI_sA, gI_sM, gL_sI, gL_sL, gL_sA, gL_sM, aI_sI, aI_sL, aI_sA, aI_sM, aL_sI, aL_sL, aL_sA, aL_sM]
          have k6_29 : 0 < gI τ29 36 := by rw [hE29.1 36 (by decide)]; exact k6_23
          refine ⟨trivial, fun w30 τ30 hq30 => ?_⟩
          have hq30 : StQ τ30 _ w30 := hq30 (accY (eY n s)) n ⟨(by repeat (first | exact hR29 | refine SR.i ?_ rfl | refine SR.a ?_ rfl)), (by repeat (first | exact hg29 | refine FgR.i ?_ rfl | refine FgR.a ?_ rfl))⟩
          have hv30 : w30 = some (.int 0) ∨ w30 = some (.int 1) := hq30.imp (fun q => q.1) (fun q => q.1)
          rcases hv30 with rfl | rfl
          · dsimp only [Option.toList, List.cons_append, List.nil_append, Nat.beq, gI_sI, gI_sL, gI_sA, gI_sM, gL_sI, gL_sL, gL_sA, gL_sM, aI_sI, aI_sL, aI_sA, aI_sM, aL_sI, aL_sL, aL_sA, aL_sM]
            unfold Qv_plain
            try dsimp only
            rw [cg_st (st_exp' hnn.2.1 (by omega) (by omega)), xp_y hc23]
            first | exact hq30 | (have hq_ := hq30; (try simp only [frR_i, frR_a, ne_eq, Nat.reduceEqDiff, not_false_eq_true, hf29, hf23, hf21, hf16, hf2] at hq_); exact hq_)
          · dsimp only [Option.toList, List.cons_append, List.nil_append, Nat.beq, gI_sI, gI_sL, gI_sA, gI_sM, gL_sI, gL_sL, gL_sA, gL_sM, aI_sI, aI_sL, aI_sA, aI_sM, aL_sI, aL_sL, aL_sA, aL_sM]
            unfold Qv_plain
            try dsimp only
            rw [cg_st (st_exp' hnn.2.1 (by omega) (by omega)), xp_y hc23]
            first | exact hq30 | (have hq_ := hq30; (try simp only [frR_i, frR_a, ne_eq, Nat.reduceEqDiff, not_false_eq_true, hf29, hf23, hf21, hf16, hf2] at hq_); exact hq_)
  next => exact hP.elim
theorem w_plain : UMet 50 (fun _ _ => True) Qw_plain := fun A1 σ _ w τ h s n hP => v_plain s n A1 σ hP w τ h
def Pv_ifOf (s : SpC) (n : Nat) : UP1 := fun A1 σ => match A1 with
  | [] => SR σ s n ∧ FgR σ 0 ∧ frR σ ≠ [] ∧ codY s = 56
  | _ => False
def Qv_ifOf (s : SpC) (n : Nat) : UQ1 := fun A1 σ w τ => match A1 with
  | [] => StQ τ (sfY (frR σ) n (stY n s)) w
  | _ => False
def Qw_ifOf : UQ1 := fun A1 σ w τ => ∀ (s : SpC) (n : Nat), Pv_ifOf s n A1 σ → Qv_ifOf s n A1 σ w τ
set_option maxRecDepth 100000 in
set_option maxHeartbeats 4000000 in
theorem v_ifOf (s : SpC) (n : Nat) : UMet 53 (Pv_ifOf s n) (Qv_ifOf s n) := by
  refine UMet.by BifOf [(52, (fun _ _ => True), Qw_condition), (20, Pu_emit, Qu_emit), (36, (fun _ _ => True), Qw_open), (17, (fun _ _ => True), Qw_take), (35, Pu_thing, Qu_thing)] rfl (ucc w_condition (ucc u_emit (ucc w_open (ucc w_take (ucc u_thing uc0))))) ?_
  intro A1 σ hP K hB hW
  unfold Pv_ifOf at hP
  split at hP
  next =>
    obtain ⟨hR, hg, hne, hcd⟩ := hP
    have hnn := hR.2.1
    have hm6 := hR.2.2.1.2.2.resolve_left hne
    intro n0_
    refine hB _ _ _ _ _ (fun m1 hm1 => ?_)
    dsimp only [ugo, uwp, ust, uct, rfd, BifOf, Nat.beq, lv_args, rlk, rs1, rs2, rdl, rky, rcd, rno, rsw, Value.category, List.filter, List.take, List.drop, List.reverse, List.reverseAux, List.cons_append, List.nil_append, Option.toList, Int.toNat, Int.reduceToNat, if_pos, if_neg, reduceIte, ↓reduceIte, Nat.reduceAdd, Nat.reduceEqDiff, Nat.reduceBEq, beq_self_eq_true, Bool.not_true, Bool.not_false, Bool.and_true, Bool.and_false, Bool.true_and, Bool.false_and, gI_sI, gI_sL, gI_sA, gI_sM, gL_sI, gL_sL, gL_sA, gL_sM, aI_sI, aI_sL, aI_sA, aI_sM, aL_sI, aL_sL, aL_sA, aL_sM, BifOf_0, BifOf_28, BifOf_35, BifOf_37, oi_0, oi_2, oi_20, oi_23, Pu_emit, Pu_thing]; try dsimp only
    refine ⟨trivial, fun w2 τ2 hq2 => ?_⟩
    obtain ⟨rfl, hE2⟩ := hq2
    have hR2 := SR.em (e_ := 0) (s := s) (n := n) (by repeat (first | exact hR | refine SR.i ?_ rfl | refine SR.a ?_ rfl)) hE2
    have hg2 := FgR.em (e_ := 0) (by repeat (first | exact hg | refine FgR.i ?_ rfl | refine FgR.a ?_ rfl)) (s := s) (n := n) (by repeat (first | exact hR | refine SR.i ?_ rfl | refine SR.a ?_ rfl)) hE2
    have hf2 := frR_em hE2
    dsimp only [Option.toList, List.cons_append, List.nil_append, Nat.beq, gI_sI, gI_sL, gI_sA, gI_sM, gL_sI, gL_sL, gL_sA, gL_sM, aI_sI, aI_sL, aI_sA, aI_sM, aL_sI, aL_sL, aL_sA, aL_sM]
    have k6_2 : 0 < gI τ2 36 := by rw [hE2.1 36 (by decide)]; exact hm6
    refine ⟨trivial, fun w3 τ3 hq3 => ?_⟩
    obtain ⟨rfl, hT3⟩ := hq3
    have hR3 := SR.th (e_ := 0) (s := s) (n := n) (by repeat (first | exact hR2 | refine SR.i ?_ rfl | refine SR.a ?_ rfl)) hT3
    have hg3 := FgR.th (e_ := 0) (by repeat (first | exact hg2 | refine FgR.i ?_ rfl | refine FgR.a ?_ rfl)) (s := s) (n := n) (by repeat (first | exact hR2 | refine SR.i ?_ rfl | refine SR.a ?_ rfl)) hT3
    have hf3 := frR_th hT3
    have hk3 := th49 hT3
    dsimp only [Option.toList, List.cons_append, List.nil_append, Nat.beq, gI_sI, gI_sL, gI_sA, gI_sM, gL_sI, gL_sL, gL_sA, gL_sM, aI_sI, aI_sL, aI_sA, aI_sM, aL_sI, aL_sL, aL_sA, aL_sM]
    have k6_3 : 0 < gI τ3 36 := by rw [hT3.1 36 (by decide)]; exact k6_2
    have k9_3 : nT (gI τ2 49) < nT (gI τ3 49) := kthx hk3
    refine ⟨trivial, fun w4 τ4 hq4 => ?_⟩
    have hq4 := hq4 _ s n ⟨(SR.x (e_ := 0) (by repeat (first | exact hR3 | refine SR.i ?_ rfl | refine SR.a ?_ rfl))), by omega, by omega⟩
    rcases hq4 with ⟨rfl, hF4⟩ | ⟨rfl, hX4, hz4, hS4⟩
    · dsimp only [Option.toList, List.cons_append, List.nil_append, Nat.beq, gI_sI, gI_sL, gI_sA, gI_sM, gL_sI, gL_sL, gL_sA, gL_sM, aI_sI, aI_sL, aI_sA, aI_sM, aL_sI, aL_sL, aL_sA, aL_sM]
      refine ⟨fun h5 => ?_, fun h5 => absurd h5 (by decide)⟩
      clear h5
      refine hB _ _ _ _ _ (fun m6 hm6 => ?_)
      dsimp only [ugo, uwp, ust, uct, rfd, BifOf, Nat.beq, lv_args, rlk, rs1, rs2, rdl, rky, rcd, rno, rsw, Value.category, List.filter, List.take, List.drop, List.reverse, List.reverseAux, List.cons_append, List.nil_append, Option.toList, Int.toNat, Int.reduceToNat, if_pos, if_neg, reduceIte, ↓reduceIte, Nat.reduceAdd, Nat.reduceEqDiff, Nat.reduceBEq, beq_self_eq_true, Bool.not_true, Bool.not_false, Bool.and_true, Bool.and_false, Bool.true_and, Bool.false_and, gI_sI, gI_sL, gI_sA, gI_sM, gL_sI, gL_sL, gL_sA, gL_sM, aI_sI, aI_sL, aI_sA, aI_sM, aL_sI, aL_sL, aL_sA, aL_sM, BifOf_0, BifOf_28, BifOf_35, BifOf_37, oi_0, oi_2, oi_20, oi_23, Pu_emit, Pu_thing]; try dsimp only
      unfold Qv_ifOf
      try dsimp only
      rw [st_if' hnn.2.1 hcd]
      refine StQ.f hF4 ?_
      exact (by repeat (first | with_reducible exact GpY.rf | with_reducible refine GpY.tr ?_ (gd_fo _) | with_reducible refine GpY.tr ?_ (gd_ef _) | with_reducible refine GpY.tr ?_ (gd_cf _) | with_reducible refine GpY.tr ?_ (gd_wt _) | with_reducible refine GpY.tr ?_ (gd_xp _) | with_reducible refine GpY.tr ?_ (gd_acc _) | with_reducible refine GpY.tr ?_ (gd_rai _) | with_reducible refine GpY.tr ?_ (gd_e _) | with_reducible refine GpY.tr ?_ (gd_o _) | with_reducible refine GpY.tr ?_ (gd_c _) | with_reducible refine GpY.tr ?_ (gd_op _) | with_reducible refine GpY.tr ?_ (gd_clp gd_e _ _) | with_reducible refine GpY.tr ?_ (gd_tl _) | with_reducible refine GpY.tr ?_ (gd_sf _ _ _) | with_reducible refine GpY.tr ?_ (gd_cl _) | with_reducible refine GpY.tr ?_ (gd_pc _) | with_reducible refine GpY.tr ?_ (gd_st _) | with_reducible refine GpY.tr ?_ (gd_rw _) | with_reducible refine GpY.tr ?_ (gd_typ _) | with_reducible refine GpY.tr ?_ (gd_dcl _) | with_reducible refine GpY.tr ?_ (gd_va2 _) | with_reducible refine GpY.tr ?_ (gd_cnd _) | with_reducible refine GpY.tr ?_ (gd_tr1 _) | with_reducible refine GpY.tr ?_ (gd_tr2 (fun _ => gd_rw) _) | with_reducible refine GpY.tr ?_ (gd_tr3 (fun _ => gd_rw) _) | with_reducible refine GpY.tr ?_ (gd_fo1 _) | with_reducible refine GpY.tr ?_ (gd_fo2 _) | with_reducible refine GpY.tr ?_ (gd_fo3 _) | with_reducible refine GpY.tr ?_ (gd_fex _) | with_reducible refine GpY.tr ?_ (pg_var.1) | with_reducible refine GpY.tr ?_ (pg_cas.1) | exact GpY.rf))
    · dsimp only [Option.toList, List.cons_append, List.nil_append, Nat.beq, gI_sI, gI_sL, gI_sA, gI_sM, gL_sI, gL_sL, gL_sA, gL_sM, aI_sI, aI_sL, aI_sA, aI_sM, aL_sI, aL_sL, aL_sA, aL_sM]
      have hR4 := SR.kr (e_ := 0) (by repeat (first | exact hR3 | refine SR.i ?_ rfl | refine SR.a ?_ rfl)) hX4 acc2
      have hg4 := FgR.kr (e_ := 0) (s := s) (n := n) (by repeat (first | exact hg3 | refine FgR.i ?_ rfl | refine FgR.a ?_ rfl)) (by repeat (first | exact hR3 | refine SR.i ?_ rfl | refine SR.a ?_ rfl)) hX4
      have hf4 := frR_kr hX4
      have k6_4 : 0 < gI τ4 36 := by rw [hX4.2.2.1.1 36 rfl]; exact k6_3
      have k9_4 : nT (gI τ2 49) < nT (gI τ4 49) := by rw [hX4.2.2.1.1 49 rfl]; exact k9_3
      refine ⟨fun h7 => absurd h7 (by decide), fun h7 => ?_⟩
      clear h7
      refine hB _ _ _ _ _ (fun m8 hm8 => ?_)
      dsimp only [ugo, uwp, ust, uct, rfd, BifOf, Nat.beq, lv_args, rlk, rs1, rs2, rdl, rky, rcd, rno, rsw, Value.category, List.filter, List.take, List.drop, List.reverse, List.reverseAux, List.cons_append, List.nil_append, Option.toList, Int.toNat, Int.reduceToNat, if_pos, if_neg, reduceIte, ↓reduceIte, Nat.reduceAdd, Nat.reduceEqDiff, Nat.reduceBEq, beq_self_eq_true, Bool.not_true, Bool.not_false, Bool.and_true, Bool.and_false, Bool.true_and, Bool.false_and, gI_sI, gI_sL, gI_sA, gI_sM, gL_sI, gL_sL, gL_sA, gL_sM, aI_sI, aI_sL, aI_sA, aI_sM, aL_sI, aL_sL, aL_sA, aL_sM, BifOf_0, BifOf_28, BifOf_35, BifOf_37, oi_0, oi_2, oi_20, oi_23, Pu_emit, Pu_thing]; try dsimp only
      refine ⟨trivial, fun w9 τ9 hq9 => ?_⟩
      have hq9 := hq9 _ (accY s) n ⟨(SR.x (e_ := 0) (by repeat (first | exact hR4 | refine SR.i ?_ rfl | refine SR.a ?_ rfl))), by omega⟩
      rcases hq9 with ⟨rfl, hF9⟩ | ⟨rfl, hX9, hs2_9⟩
      · dsimp only [Option.toList, List.cons_append, List.nil_append, Nat.beq, gI_sI, gI_sL, gI_sA, gI_sM, gL_sI, gL_sL, gL_sA, gL_sM, aI_sI, aI_sL, aI_sA, aI_sM, aL_sI, aL_sL, aL_sA, aL_sM]
        refine ⟨fun h10 => absurd h10 (by decide), fun h10 => ?_⟩
        clear h10
        refine hB _ _ _ _ _ (fun m11 hm11 => ?_)
        dsimp only [ugo, uwp, ust, uct, rfd, BifOf, Nat.beq, lv_args, rlk, rs1, rs2, rdl, rky, rcd, rno, rsw, Value.category, List.filter, List.take, List.drop, List.reverse, List.reverseAux, List.cons_append, List.nil_append, Option.toList, Int.toNat, Int.reduceToNat, if_pos, if_neg, reduceIte, ↓reduceIte, Nat.reduceAdd, Nat.reduceEqDiff, Nat.reduceBEq, beq_self_eq_true, Bool.not_true, Bool.not_false, Bool.and_true, Bool.and_false, Bool.true_and, Bool.false_and, gI_sI, gI_sL, gI_sA, gI_sM, gL_sI, gL_sL, gL_sA, gL_sM, aI_sI, aI_sL, aI_sA, aI_sM, aL_sI, aL_sL, aL_sA, aL_sM, BifOf_0, BifOf_28, BifOf_35, BifOf_37, oi_0, oi_2, oi_20, oi_23, Pu_emit, Pu_thing]; try dsimp only
        unfold Qv_ifOf
        try dsimp only
        rw [st_if' hnn.2.1 hcd]
        refine StQ.f hF9 ?_
        exact (by repeat (first | with_reducible exact GpY.rf | with_reducible refine GpY.tr ?_ (gd_fo _) | with_reducible refine GpY.tr ?_ (gd_ef _) | with_reducible refine GpY.tr ?_ (gd_cf _) | with_reducible refine GpY.tr ?_ (gd_wt _) | with_reducible refine GpY.tr ?_ (gd_xp _) | with_reducible refine GpY.tr ?_ (gd_acc _) | with_reducible refine GpY.tr ?_ (gd_rai _) | with_reducible refine GpY.tr ?_ (gd_e _) | with_reducible refine GpY.tr ?_ (gd_o _) | with_reducible refine GpY.tr ?_ (gd_c _) | with_reducible refine GpY.tr ?_ (gd_op _) | with_reducible refine GpY.tr ?_ (gd_clp gd_e _ _) | with_reducible refine GpY.tr ?_ (gd_tl _) | with_reducible refine GpY.tr ?_ (gd_sf _ _ _) | with_reducible refine GpY.tr ?_ (gd_cl _) | with_reducible refine GpY.tr ?_ (gd_pc _) | with_reducible refine GpY.tr ?_ (gd_st _) | with_reducible refine GpY.tr ?_ (gd_rw _) | with_reducible refine GpY.tr ?_ (gd_typ _) | with_reducible refine GpY.tr ?_ (gd_dcl _) | with_reducible refine GpY.tr ?_ (gd_va2 _) | with_reducible refine GpY.tr ?_ (gd_cnd _) | with_reducible refine GpY.tr ?_ (gd_tr1 _) | with_reducible refine GpY.tr ?_ (gd_tr2 (fun _ => gd_rw) _) | with_reducible refine GpY.tr ?_ (gd_tr3 (fun _ => gd_rw) _) | with_reducible refine GpY.tr ?_ (gd_fo1 _) | with_reducible refine GpY.tr ?_ (gd_fo2 _) | with_reducible refine GpY.tr ?_ (gd_fo3 _) | with_reducible refine GpY.tr ?_ (gd_fex _) | with_reducible refine GpY.tr ?_ (pg_var.1) | with_reducible refine GpY.tr ?_ (pg_cas.1) | exact GpY.rf))
      · dsimp only [Option.toList, List.cons_append, List.nil_append, Nat.beq, gI_sI, gI_sL, gI_sA, gI_sM, gL_sI, gL_sL, gL_sA, gL_sM, aI_sI, aI_sL, aI_sA, aI_sM, aL_sI, aL_sL, aL_sA, aL_sM]
        have hR9 := SR.kr (e_ := 0) (by repeat (first | exact hR4 | refine SR.i ?_ rfl | refine SR.a ?_ rfl)) hX9 hs2_9
        have hg9 := FgR.kr (e_ := 0) (s := (accY s)) (n := n) (by repeat (first | exact hg4 | refine FgR.i ?_ rfl | refine FgR.a ?_ rfl)) (by repeat (first | exact hR4 | refine SR.i ?_ rfl | refine SR.a ?_ rfl)) hX9
        have hf9 := frR_kr hX9
        have k6_9 : 0 < gI τ9 36 := by rw [hX9.2.2.1.1 36 rfl]; exact k6_4
        have k9_9 : nT (gI τ2 49) < nT (gI τ9 49) := by rw [hX9.2.2.1.1 49 rfl]; exact k9_4
        refine ⟨fun h12 => ?_, fun h12 => absurd h12 (by decide)⟩
        clear h12
        refine hB _ _ _ _ _ (fun m13 hm13 => ?_)
        dsimp only [ugo, uwp, ust, uct, rfd, BifOf, Nat.beq, lv_args, rlk, rs1, rs2, rdl, rky, rcd, rno, rsw, Value.category, List.filter, List.take, List.drop, List.reverse, List.reverseAux, List.cons_append, List.nil_append, Option.toList, Int.toNat, Int.reduceToNat, if_pos, if_neg, reduceIte, ↓reduceIte, Nat.reduceAdd, Nat.reduceEqDiff, Nat.reduceBEq, beq_self_eq_true, Bool.not_true, Bool.not_false, Bool.and_true, Bool.and_false, Bool.true_and, Bool.false_and, gI_sI, gI_sL, gI_sA, gI_sM, gL_sI, gL_sL, gL_sA, gL_sM, aI_sI, aI_sL, aI_sA, aI_sM, aL_sI, aL_sL, aL_sA, aL_sM, BifOf_0, BifOf_28, BifOf_35, BifOf_37, oi_0, oi_2, oi_20, oi_23, Pu_emit, Pu_thing]; try dsimp only
        refine ⟨trivial, fun w14 τ14 hq14 => ?_⟩
        obtain ⟨rfl, hE14⟩ := hq14
        have hR14 := SR.em (e_ := 0) (s := (cndY n (accY s))) (n := n) (by repeat (first | exact hR9 | refine SR.i ?_ rfl | refine SR.a ?_ rfl)) hE14
        have hg14 := FgR.em (e_ := 0) (by repeat (first | exact hg9 | refine FgR.i ?_ rfl | refine FgR.a ?_ rfl)) (s := (cndY n (accY s))) (n := n) (by repeat (first | exact hR9 | refine SR.i ?_ rfl | refine SR.a ?_ rfl)) hE14
        have hf14 := frR_em hE14
        dsimp only [Option.toList, List.cons_append, List.nil_append, Nat.beq, gI_sI, gI_sL, gI_sA, gI_sM, gL_sI, gL_sL, gL_sA, gL_sM, aI_sI, aI_sL, aI_sA, aI_sM, aL_sI, aL_sL, aL_sA, aL_sM]
        have k6_14 : 0 < gI τ14 36 := by rw [hE14.1 36 (by decide)]; exact k6_9
        have k9_14 : nT (gI τ2 49) < nT (gI τ14 49) := by rw [hE14.1 49 (by decide)]; exact k9_9
        refine ⟨trivial, fun w15 τ15 hq15 => ?_⟩
        have hq15 := hq15 (cndY n (accY s)) n ⟨(by repeat (first | exact hR14 | refine SR.i ?_ rfl | refine SR.a ?_ rfl)), (by repeat (first | exact hg14 | refine FgR.i ?_ rfl | refine FgR.a ?_ rfl)), k9_14, by decide, (iff_of_false (by decide) (by (try simp only [frR_i, frR_a, ne_eq, Nat.reduceEqDiff, not_false_eq_true, hf14, hf9, hf4, hf3, hf2]); exact hne)), k6_14, (fun q => absurd q (by decide))⟩
        rcases hq15 with ⟨rfl, hn15, hF15⟩ | ⟨rfl, hn15, hR15, hg15, hf15⟩
        · dsimp only [Option.toList, List.cons_append, List.nil_append, Nat.beq, gI_sI, gI_sL, gI_sA, gI_sM, gL_sI, gL_sL, gL_sA, gL_sM, aI_sI, aI_sL, aI_sA, aI_sM, aL_sI, aL_sL, aL_sA, aL_sM]
          unfold Qv_ifOf
          try dsimp only
          rw [st_if' hnn.2.1 hcd, st_0 hn15]
          refine StQ.f hF15 ?_
          exact (by repeat (first | with_reducible exact GpY.rf | with_reducible refine GpY.tr ?_ (gd_fo _) | with_reducible refine GpY.tr ?_ (gd_ef _) | with_reducible refine GpY.tr ?_ (gd_cf _) | with_reducible refine GpY.tr ?_ (gd_wt _) | with_reducible refine GpY.tr ?_ (gd_xp _) | with_reducible refine GpY.tr ?_ (gd_acc _) | with_reducible refine GpY.tr ?_ (gd_rai _) | with_reducible refine GpY.tr ?_ (gd_e _) | with_reducible refine GpY.tr ?_ (gd_o _) | with_reducible refine GpY.tr ?_ (gd_c _) | with_reducible refine GpY.tr ?_ (gd_op _) | with_reducible refine GpY.tr ?_ (gd_clp gd_e _ _) | with_reducible refine GpY.tr ?_ (gd_tl _) | with_reducible refine GpY.tr ?_ (gd_sf _ _ _) | with_reducible refine GpY.tr ?_ (gd_cl _) | with_reducible refine GpY.tr ?_ (gd_pc _) | with_reducible refine GpY.tr ?_ (gd_st _) | with_reducible refine GpY.tr ?_ (gd_rw _) | with_reducible refine GpY.tr ?_ (gd_typ _) | with_reducible refine GpY.tr ?_ (gd_dcl _) | with_reducible refine GpY.tr ?_ (gd_va2 _) | with_reducible refine GpY.tr ?_ (gd_cnd _) | with_reducible refine GpY.tr ?_ (gd_tr1 _) | with_reducible refine GpY.tr ?_ (gd_tr2 (fun _ => gd_rw) _) | with_reducible refine GpY.tr ?_ (gd_tr3 (fun _ => gd_rw) _) | with_reducible refine GpY.tr ?_ (gd_fo1 _) | with_reducible refine GpY.tr ?_ (gd_fo2 _) | with_reducible refine GpY.tr ?_ (gd_fo3 _) | with_reducible refine GpY.tr ?_ (gd_fex _) | with_reducible refine GpY.tr ?_ (pg_var.1) | with_reducible refine GpY.tr ?_ (pg_cas.1) | exact GpY.rf))
        · dsimp only [Option.toList, List.cons_append, List.nil_append, Nat.beq, gI_sI, gI_sL, gI_sA, gI_sM, gL_sI, gL_sL, gL_sA, gL_sM, aI_sI, aI_sL, aI_sA, aI_sM, aL_sI, aL_sL, aL_sA, aL_sM]
          have hf15 : frR τ15 = (2 : Int) :: _ := hf15
          unfold Qv_ifOf
          try dsimp only
          refine Or.inr ⟨rfl, (cndY n (accY s)), (n - 1), 1, (by repeat (first | exact hR15 | refine SR.i ?_ rfl | refine SR.a ?_ rfl)), (by repeat (first | exact hg15 | refine FgR.i ?_ rfl | refine FgR.a ?_ rfl)), ?_⟩
          rw [st_if' hnn.2.1 hcd]
          simp only [frR_i, frR_a, ne_eq, Nat.reduceEqDiff, not_false_eq_true, hf15, hf14, hf9, hf4, hf3, hf2]
          exact pc_st (by decide)
  next => exact hP.elim
theorem w_ifOf : UMet 53 (fun _ _ => True) Qw_ifOf := fun A1 σ _ w τ h s n hP => v_ifOf s n A1 σ hP w τ h
def Pv_whileOf (s : SpC) (n : Nat) : UP1 := fun A1 σ => match A1 with
  | [] => SR σ s n ∧ FgR σ 0 ∧ frR σ ≠ [] ∧ codY s = 58
  | _ => False
def Qv_whileOf (s : SpC) (n : Nat) : UQ1 := fun A1 σ w τ => match A1 with
  | [] => StQ τ (sfY (frR σ) n (stY n s)) w
  | _ => False
def Qw_whileOf : UQ1 := fun A1 σ w τ => ∀ (s : SpC) (n : Nat), Pv_whileOf s n A1 σ → Qv_whileOf s n A1 σ w τ
set_option maxRecDepth 100000 in
set_option maxHeartbeats 4000000 in
theorem v_whileOf (s : SpC) (n : Nat) : UMet 54 (Pv_whileOf s n) (Qv_whileOf s n) := by
  refine UMet.by BwhileOf [(52, (fun _ _ => True), Qw_condition), (20, Pu_emit, Qu_emit), (36, (fun _ _ => True), Qw_open), (17, (fun _ _ => True), Qw_take), (35, Pu_thing, Qu_thing)] rfl (ucc w_condition (ucc u_emit (ucc w_open (ucc w_take (ucc u_thing uc0))))) ?_
  intro A1 σ hP K hB hW
  unfold Pv_whileOf at hP
  split at hP
  next =>
    obtain ⟨hR, hg, hne, hcd⟩ := hP
    have hnn := hR.2.1
    have hm6 := hR.2.2.1.2.2.resolve_left hne
    intro n0_
    refine hB _ _ _ _ _ (fun m1 hm1 => ?_)
    dsimp only [ugo, uwp, ust, uct, rfd, BwhileOf, Nat.beq, lv_args, rlk, rs1, rs2, rdl, rky, rcd, rno, rsw, Value.category, List.filter, List.take, List.drop, List.reverse, List.reverseAux, List.cons_append, List.nil_append, Option.toList, Int.toNat, Int.reduceToNat, if_pos, if_neg, reduceIte, ↓reduceIte, Nat.reduceAdd, Nat.reduceEqDiff, Nat.reduceBEq, beq_self_eq_true, Bool.not_true, Bool.not_false, Bool.and_true, Bool.and_false, Bool.true_and, Bool.false_and, gI_sI, gI_sL, gI_sA, gI_sM, gL_sI, gL_sL, gL_sA, gL_sM, aI_sI, aI_sL, aI_sA, aI_sM, aL_sI, aL_sL, aL_sA, aL_sM, BwhileOf_0, BwhileOf_37, BwhileOf_44, BwhileOf_46, oi_0, oi_20, oi_26, oi_27, oi_4, Pu_emit, Pu_thing]; try dsimp only
    refine ⟨trivial, fun w2 τ2 hq2 => ?_⟩
    obtain ⟨rfl, hE2⟩ := hq2
    have hR2 := SR.em (e_ := 0) (s := s) (n := n) (by repeat (first | exact hR | refine SR.i ?_ rfl | refine SR.a ?_ rfl)) hE2
    have hg2 := FgR.em (e_ := 0) (by repeat (first | exact hg | refine FgR.i ?_ rfl | refine FgR.a ?_ rfl)) (s := s) (n := n) (by repeat (first | exact hR | refine SR.i ?_ rfl | refine SR.a ?_ rfl)) hE2
    have hf2 := frR_em hE2
    dsimp only [Option.toList, List.cons_append, List.nil_append, Nat.beq, gI_sI, gI_sL, gI_sA, gI_sM, gL_sI, gL_sL, gL_sA, gL_sM, aI_sI, aI_sL, aI_sA, aI_sM, aL_sI, aL_sL, aL_sA, aL_sM]
    have k6_2 : 0 < gI τ2 36 := by rw [hE2.1 36 (by decide)]; exact hm6
    refine ⟨trivial, fun w3 τ3 hq3 => ?_⟩
    obtain ⟨rfl, hT3⟩ := hq3
    have hR3 := SR.th (e_ := 0) (s := s) (n := n) (by repeat (first | exact hR2 | refine SR.i ?_ rfl | refine SR.a ?_ rfl)) hT3
    have hg3 := FgR.th (e_ := 0) (by repeat (first | exact hg2 | refine FgR.i ?_ rfl | refine FgR.a ?_ rfl)) (s := s) (n := n) (by repeat (first | exact hR2 | refine SR.i ?_ rfl | refine SR.a ?_ rfl)) hT3
    have hf3 := frR_th hT3
    have hk3 := th49 hT3
    dsimp only [Option.toList, List.cons_append, List.nil_append, Nat.beq, gI_sI, gI_sL, gI_sA, gI_sM, gL_sI, gL_sL, gL_sA, gL_sM, aI_sI, aI_sL, aI_sA, aI_sM, aL_sI, aL_sL, aL_sA, aL_sM]
    have k6_3 : 0 < gI τ3 36 := by rw [hT3.1 36 (by decide)]; exact k6_2
    have k9_3 : nT (gI τ2 49) < nT (gI τ3 49) := kthx hk3
    refine ⟨trivial, fun w4 τ4 hq4 => ?_⟩
    obtain ⟨rfl, hE4⟩ := hq4
    have hR4 := SR.em (e_ := 0) (s := s) (n := n) (by repeat (first | exact hR3 | refine SR.i ?_ rfl | refine SR.a ?_ rfl)) hE4
    have hg4 := FgR.em (e_ := 0) (by repeat (first | exact hg3 | refine FgR.i ?_ rfl | refine FgR.a ?_ rfl)) (s := s) (n := n) (by repeat (first | exact hR3 | refine SR.i ?_ rfl | refine SR.a ?_ rfl)) hE4
    have hf4 := frR_em hE4
    dsimp only [Option.toList, List.cons_append, List.nil_append, Nat.beq, gI_sI, gI_sL, gI_sA, gI_sM, gL_sI, gL_sL, gL_sA, gL_sM, aI_sI, aI_sL, aI_sA, aI_sM, aL_sI, aL_sL, aL_sA, aL_sM]
    have k6_4 : 0 < gI τ4 36 := by rw [hE4.1 36 (by decide)]; exact k6_3
    have k9_4 : nT (gI τ2 49) < nT (gI τ4 49) := by rw [hE4.1 49 (by decide)]; exact k9_3
    refine ⟨trivial, fun w5 τ5 hq5 => ?_⟩
    have hq5 := hq5 _ s n ⟨(SR.x (e_ := 0) (by repeat (first | exact hR4 | refine SR.i ?_ rfl | refine SR.a ?_ rfl))), by omega, by omega⟩
    rcases hq5 with ⟨rfl, hF5⟩ | ⟨rfl, hX5, hz5, hS5⟩
    · dsimp only [Option.toList, List.cons_append, List.nil_append, Nat.beq, gI_sI, gI_sL, gI_sA, gI_sM, gL_sI, gL_sL, gL_sA, gL_sM, aI_sI, aI_sL, aI_sA, aI_sM, aL_sI, aL_sL, aL_sA, aL_sM]
      refine ⟨fun h6 => ?_, fun h6 => absurd h6 (by decide)⟩
      clear h6
      refine hB _ _ _ _ _ (fun m7 hm7 => ?_)
      dsimp only [ugo, uwp, ust, uct, rfd, BwhileOf, Nat.beq, lv_args, rlk, rs1, rs2, rdl, rky, rcd, rno, rsw, Value.category, List.filter, List.take, List.drop, List.reverse, List.reverseAux, List.cons_append, List.nil_append, Option.toList, Int.toNat, Int.reduceToNat, if_pos, if_neg, reduceIte, ↓reduceIte, Nat.reduceAdd, Nat.reduceEqDiff, Nat.reduceBEq, beq_self_eq_true, Bool.not_true, Bool.not_false, Bool.and_true, Bool.and_false, Bool.true_and, Bool.false_and, gI_sI, gI_sL, gI_sA, gI_sM, gL_sI, gL_sL, gL_sA, gL_sM, aI_sI, aI_sL, aI_sA, aI_sM, aL_sI, aL_sL, aL_sA, aL_sM, BwhileOf_0, BwhileOf_37, BwhileOf_44, BwhileOf_46, oi_0, oi_20, oi_26, oi_27, oi_4, Pu_emit, Pu_thing]; try dsimp only
      unfold Qv_whileOf
      try dsimp only
      rw [st_whi' hnn.2.1 hcd]
      refine StQ.f hF5 ?_
      exact (by repeat (first | with_reducible exact GpY.rf | with_reducible refine GpY.tr ?_ (gd_fo _) | with_reducible refine GpY.tr ?_ (gd_ef _) | with_reducible refine GpY.tr ?_ (gd_cf _) | with_reducible refine GpY.tr ?_ (gd_wt _) | with_reducible refine GpY.tr ?_ (gd_xp _) | with_reducible refine GpY.tr ?_ (gd_acc _) | with_reducible refine GpY.tr ?_ (gd_rai _) | with_reducible refine GpY.tr ?_ (gd_e _) | with_reducible refine GpY.tr ?_ (gd_o _) | with_reducible refine GpY.tr ?_ (gd_c _) | with_reducible refine GpY.tr ?_ (gd_op _) | with_reducible refine GpY.tr ?_ (gd_clp gd_e _ _) | with_reducible refine GpY.tr ?_ (gd_tl _) | with_reducible refine GpY.tr ?_ (gd_sf _ _ _) | with_reducible refine GpY.tr ?_ (gd_cl _) | with_reducible refine GpY.tr ?_ (gd_pc _) | with_reducible refine GpY.tr ?_ (gd_st _) | with_reducible refine GpY.tr ?_ (gd_rw _) | with_reducible refine GpY.tr ?_ (gd_typ _) | with_reducible refine GpY.tr ?_ (gd_dcl _) | with_reducible refine GpY.tr ?_ (gd_va2 _) | with_reducible refine GpY.tr ?_ (gd_cnd _) | with_reducible refine GpY.tr ?_ (gd_tr1 _) | with_reducible refine GpY.tr ?_ (gd_tr2 (fun _ => gd_rw) _) | with_reducible refine GpY.tr ?_ (gd_tr3 (fun _ => gd_rw) _) | with_reducible refine GpY.tr ?_ (gd_fo1 _) | with_reducible refine GpY.tr ?_ (gd_fo2 _) | with_reducible refine GpY.tr ?_ (gd_fo3 _) | with_reducible refine GpY.tr ?_ (gd_fex _) | with_reducible refine GpY.tr ?_ (pg_var.1) | with_reducible refine GpY.tr ?_ (pg_cas.1) | exact GpY.rf))
    · dsimp only [Option.toList, List.cons_append, List.nil_append, Nat.beq, gI_sI, gI_sL, gI_sA, gI_sM, gL_sI, gL_sL, gL_sA, gL_sM, aI_sI, aI_sL, aI_sA, aI_sM, aL_sI, aL_sL, aL_sA, aL_sM]
      have hR5 := SR.kr (e_ := 0) (by repeat (first | exact hR4 | refine SR.i ?_ rfl | refine SR.a ?_ rfl)) hX5 acc2
      have hg5 := FgR.kr (e_ := 0) (s := s) (n := n) (by repeat (first | exact hg4 | refine FgR.i ?_ rfl | refine FgR.a ?_ rfl)) (by repeat (first | exact hR4 | refine SR.i ?_ rfl | refine SR.a ?_ rfl)) hX5
      have hf5 := frR_kr hX5
      have k6_5 : 0 < gI τ5 36 := by rw [hX5.2.2.1.1 36 rfl]; exact k6_4
      have k9_5 : nT (gI τ2 49) < nT (gI τ5 49) := by rw [hX5.2.2.1.1 49 rfl]; exact k9_4
      refine ⟨fun h8 => absurd h8 (by decide), fun h8 => ?_⟩
      clear h8
      refine hB _ _ _ _ _ (fun m9 hm9 => ?_)
      dsimp only [ugo, uwp, ust, uct, rfd, BwhileOf, Nat.beq, lv_args, rlk, rs1, rs2, rdl, rky, rcd, rno, rsw, Value.category, List.filter, List.take, List.drop, List.reverse, List.reverseAux, List.cons_append, List.nil_append, Option.toList, Int.toNat, Int.reduceToNat, if_pos, if_neg, reduceIte, ↓reduceIte, Nat.reduceAdd, Nat.reduceEqDiff, Nat.reduceBEq, beq_self_eq_true, Bool.not_true, Bool.not_false, Bool.and_true, Bool.and_false, Bool.true_and, Bool.false_and, gI_sI, gI_sL, gI_sA, gI_sM, gL_sI, gL_sL, gL_sA, gL_sM, aI_sI, aI_sL, aI_sA, aI_sM, aL_sI, aL_sL, aL_sA, aL_sM, BwhileOf_0, BwhileOf_37, BwhileOf_44, BwhileOf_46, oi_0, oi_20, oi_26, oi_27, oi_4, Pu_emit, Pu_thing]; try dsimp only
      refine ⟨trivial, fun w10 τ10 hq10 => ?_⟩
      have hq10 := hq10 _ (accY s) n ⟨(SR.x (e_ := 0) (by repeat (first | exact hR5 | refine SR.i ?_ rfl | refine SR.a ?_ rfl))), by omega⟩
      rcases hq10 with ⟨rfl, hF10⟩ | ⟨rfl, hX10, hs2_10⟩
      · dsimp only [Option.toList, List.cons_append, List.nil_append, Nat.beq, gI_sI, gI_sL, gI_sA, gI_sM, gL_sI, gL_sL, gL_sA, gL_sM, aI_sI, aI_sL, aI_sA, aI_sM, aL_sI, aL_sL, aL_sA, aL_sM]
        refine ⟨fun h11 => absurd h11 (by decide), fun h11 => ?_⟩
        clear h11
        refine hB _ _ _ _ _ (fun m12 hm12 => ?_)
        dsimp only [ugo, uwp, ust, uct, rfd, BwhileOf, Nat.beq, lv_args, rlk, rs1, rs2, rdl, rky, rcd, rno, rsw, Value.category, List.filter, List.take, List.drop, List.reverse, List.reverseAux, List.cons_append, List.nil_append, Option.toList, Int.toNat, Int.reduceToNat, if_pos, if_neg, reduceIte, ↓reduceIte, Nat.reduceAdd, Nat.reduceEqDiff, Nat.reduceBEq, beq_self_eq_true, Bool.not_true, Bool.not_false, Bool.and_true, Bool.and_false, Bool.true_and, Bool.false_and, gI_sI, gI_sL, gI_sA, gI_sM, gL_sI, gL_sL, gL_sA, gL_sM, aI_sI, aI_sL, aI_sA, aI_sM, aL_sI, aL_sL, aL_sA, aL_sM, BwhileOf_0, BwhileOf_37, BwhileOf_44, BwhileOf_46, oi_0, oi_20, oi_26, oi_27, oi_4, Pu_emit, Pu_thing]; try dsimp only
        unfold Qv_whileOf
        try dsimp only
        rw [st_whi' hnn.2.1 hcd]
        refine StQ.f hF10 ?_
        exact (by repeat (first | with_reducible exact GpY.rf | with_reducible refine GpY.tr ?_ (gd_fo _) | with_reducible refine GpY.tr ?_ (gd_ef _) | with_reducible refine GpY.tr ?_ (gd_cf _) | with_reducible refine GpY.tr ?_ (gd_wt _) | with_reducible refine GpY.tr ?_ (gd_xp _) | with_reducible refine GpY.tr ?_ (gd_acc _) | with_reducible refine GpY.tr ?_ (gd_rai _) | with_reducible refine GpY.tr ?_ (gd_e _) | with_reducible refine GpY.tr ?_ (gd_o _) | with_reducible refine GpY.tr ?_ (gd_c _) | with_reducible refine GpY.tr ?_ (gd_op _) | with_reducible refine GpY.tr ?_ (gd_clp gd_e _ _) | with_reducible refine GpY.tr ?_ (gd_tl _) | with_reducible refine GpY.tr ?_ (gd_sf _ _ _) | with_reducible refine GpY.tr ?_ (gd_cl _) | with_reducible refine GpY.tr ?_ (gd_pc _) | with_reducible refine GpY.tr ?_ (gd_st _) | with_reducible refine GpY.tr ?_ (gd_rw _) | with_reducible refine GpY.tr ?_ (gd_typ _) | with_reducible refine GpY.tr ?_ (gd_dcl _) | with_reducible refine GpY.tr ?_ (gd_va2 _) | with_reducible refine GpY.tr ?_ (gd_cnd _) | with_reducible refine GpY.tr ?_ (gd_tr1 _) | with_reducible refine GpY.tr ?_ (gd_tr2 (fun _ => gd_rw) _) | with_reducible refine GpY.tr ?_ (gd_tr3 (fun _ => gd_rw) _) | with_reducible refine GpY.tr ?_ (gd_fo1 _) | with_reducible refine GpY.tr ?_ (gd_fo2 _) | with_reducible refine GpY.tr ?_ (gd_fo3 _) | with_reducible refine GpY.tr ?_ (gd_fex _) | with_reducible refine GpY.tr ?_ (pg_var.1) | with_reducible refine GpY.tr ?_ (pg_cas.1) | exact GpY.rf))
      · dsimp only [Option.toList, List.cons_append, List.nil_append, Nat.beq, gI_sI, gI_sL, gI_sA, gI_sM, gL_sI, gL_sL, gL_sA, gL_sM, aI_sI, aI_sL, aI_sA, aI_sM, aL_sI, aL_sL, aL_sA, aL_sM]
        have hR10 := SR.kr (e_ := 0) (by repeat (first | exact hR5 | refine SR.i ?_ rfl | refine SR.a ?_ rfl)) hX10 hs2_10
        have hg10 := FgR.kr (e_ := 0) (s := (accY s)) (n := n) (by repeat (first | exact hg5 | refine FgR.i ?_ rfl | refine FgR.a ?_ rfl)) (by repeat (first | exact hR5 | refine SR.i ?_ rfl | refine SR.a ?_ rfl)) hX10
        have hf10 := frR_kr hX10
        have k6_10 : 0 < gI τ10 36 := by rw [hX10.2.2.1.1 36 rfl]; exact k6_5
        have k9_10 : nT (gI τ2 49) < nT (gI τ10 49) := by rw [hX10.2.2.1.1 49 rfl]; exact k9_5
        refine ⟨fun h13 => ?_, fun h13 => absurd h13 (by decide)⟩
        clear h13
        refine hB _ _ _ _ _ (fun m14 hm14 => ?_)
        dsimp only [ugo, uwp, ust, uct, rfd, BwhileOf, Nat.beq, lv_args, rlk, rs1, rs2, rdl, rky, rcd, rno, rsw, Value.category, List.filter, List.take, List.drop, List.reverse, List.reverseAux, List.cons_append, List.nil_append, Option.toList, Int.toNat, Int.reduceToNat, if_pos, if_neg, reduceIte, ↓reduceIte, Nat.reduceAdd, Nat.reduceEqDiff, Nat.reduceBEq, beq_self_eq_true, Bool.not_true, Bool.not_false, Bool.and_true, Bool.and_false, Bool.true_and, Bool.false_and, gI_sI, gI_sL, gI_sA, gI_sM, gL_sI, gL_sL, gL_sA, gL_sM, aI_sI, aI_sL, aI_sA, aI_sM, aL_sI, aL_sL, aL_sA, aL_sM, BwhileOf_0, BwhileOf_37, BwhileOf_44, BwhileOf_46, oi_0, oi_20, oi_26, oi_27, oi_4, Pu_emit, Pu_thing]; try dsimp only
        refine ⟨trivial, fun w15 τ15 hq15 => ?_⟩
        obtain ⟨rfl, hE15⟩ := hq15
        have hR15 := SR.em (e_ := 0) (s := (cndY n (accY s))) (n := n) (by repeat (first | exact hR10 | refine SR.i ?_ rfl | refine SR.a ?_ rfl)) hE15
        have hg15 := FgR.em (e_ := 0) (by repeat (first | exact hg10 | refine FgR.i ?_ rfl | refine FgR.a ?_ rfl)) (s := (cndY n (accY s))) (n := n) (by repeat (first | exact hR10 | refine SR.i ?_ rfl | refine SR.a ?_ rfl)) hE15
        have hf15 := frR_em hE15
        dsimp only [Option.toList, List.cons_append, List.nil_append, Nat.beq, gI_sI, gI_sL, gI_sA, gI_sM, gL_sI, gL_sL, gL_sA, gL_sM, aI_sI, aI_sL, aI_sA, aI_sM, aL_sI, aL_sL, aL_sA, aL_sM]
        have k6_15 : 0 < gI τ15 36 := by rw [hE15.1 36 (by decide)]; exact k6_10
        have k9_15 : nT (gI τ2 49) < nT (gI τ15 49) := by rw [hE15.1 49 (by decide)]; exact k9_10
        intro p16
        refine ⟨trivial, fun w17 τ17 hq17 => ?_⟩
        have hq17 := hq17 (cndY n (accY s)) n ⟨(by repeat (first | exact hR15 | refine SR.i ?_ rfl | refine SR.a ?_ rfl)), (by repeat (first | exact hg15 | refine FgR.i ?_ rfl | refine FgR.a ?_ rfl)), k9_15, by decide, (iff_of_false (by decide) (by (try simp only [frR_i, frR_a, ne_eq, Nat.reduceEqDiff, not_false_eq_true, hf15, hf10, hf5, hf4, hf3, hf2]); exact hne)), k6_15, (fun q => absurd q (by decide))⟩
        rcases hq17 with ⟨rfl, hn17, hF17⟩ | ⟨rfl, hn17, hR17, hg17, hf17⟩
        · dsimp only [Option.toList, List.cons_append, List.nil_append, Nat.beq, gI_sI, gI_sL, gI_sA, gI_sM, gL_sI, gL_sL, gL_sA, gL_sM, aI_sI, aI_sL, aI_sA, aI_sM, aL_sI, aL_sL, aL_sA, aL_sM]
          unfold Qv_whileOf
          try dsimp only
          rw [st_whi' hnn.2.1 hcd, st_0 hn17]
          refine StQ.f hF17 ?_
          exact (by repeat (first | with_reducible exact GpY.rf | with_reducible refine GpY.tr ?_ (gd_fo _) | with_reducible refine GpY.tr ?_ (gd_ef _) | with_reducible refine GpY.tr ?_ (gd_cf _) | with_reducible refine GpY.tr ?_ (gd_wt _) | with_reducible refine GpY.tr ?_ (gd_xp _) | with_reducible refine GpY.tr ?_ (gd_acc _) | with_reducible refine GpY.tr ?_ (gd_rai _) | with_reducible refine GpY.tr ?_ (gd_e _) | with_reducible refine GpY.tr ?_ (gd_o _) | with_reducible refine GpY.tr ?_ (gd_c _) | with_reducible refine GpY.tr ?_ (gd_op _) | with_reducible refine GpY.tr ?_ (gd_clp gd_e _ _) | with_reducible refine GpY.tr ?_ (gd_tl _) | with_reducible refine GpY.tr ?_ (gd_sf _ _ _) | with_reducible refine GpY.tr ?_ (gd_cl _) | with_reducible refine GpY.tr ?_ (gd_pc _) | with_reducible refine GpY.tr ?_ (gd_st _) | with_reducible refine GpY.tr ?_ (gd_rw _) | with_reducible refine GpY.tr ?_ (gd_typ _) | with_reducible refine GpY.tr ?_ (gd_dcl _) | with_reducible refine GpY.tr ?_ (gd_va2 _) | with_reducible refine GpY.tr ?_ (gd_cnd _) | with_reducible refine GpY.tr ?_ (gd_tr1 _) | with_reducible refine GpY.tr ?_ (gd_tr2 (fun _ => gd_rw) _) | with_reducible refine GpY.tr ?_ (gd_tr3 (fun _ => gd_rw) _) | with_reducible refine GpY.tr ?_ (gd_fo1 _) | with_reducible refine GpY.tr ?_ (gd_fo2 _) | with_reducible refine GpY.tr ?_ (gd_fo3 _) | with_reducible refine GpY.tr ?_ (gd_fex _) | with_reducible refine GpY.tr ?_ (pg_var.1) | with_reducible refine GpY.tr ?_ (pg_cas.1) | exact GpY.rf))
        · dsimp only [Option.toList, List.cons_append, List.nil_append, Nat.beq, gI_sI, gI_sL, gI_sA, gI_sM, gL_sI, gL_sL, gL_sA, gL_sM, aI_sI, aI_sL, aI_sA, aI_sM, aL_sI, aL_sL, aL_sA, aL_sM]
          have hf17 : frR τ17 = (4 : Int) :: _ := hf17
          unfold Qv_whileOf
          try dsimp only
          refine Or.inr ⟨rfl, (cndY n (accY s)), (n - 1), 1, (by repeat (first | exact hR17 | refine SR.i ?_ rfl | refine SR.a ?_ rfl)), (by repeat (first | exact hg17 | refine FgR.i ?_ rfl | refine FgR.a ?_ rfl)), ?_⟩
          rw [st_whi' hnn.2.1 hcd]
          simp only [frR_i, frR_a, ne_eq, Nat.reduceEqDiff, not_false_eq_true, hf17, hf15, hf10, hf5, hf4, hf3, hf2]
          exact pc_st (by decide)
  next => exact hP.elim
theorem w_whileOf : UMet 54 (fun _ _ => True) Qw_whileOf := fun A1 σ _ w τ h s n hP => v_whileOf s n A1 σ hP w τ h
def Pv_doOf (s : SpC) (n : Nat) : UP1 := fun A1 σ => match A1 with
  | [] => SR σ s n ∧ FgR σ 0 ∧ frR σ ≠ [] ∧ codY s = 59
  | _ => False
def Qv_doOf (s : SpC) (n : Nat) : UQ1 := fun A1 σ w τ => match A1 with
  | [] => StQ τ (sfY (frR σ) n (stY n s)) w
  | _ => False
def Qw_doOf : UQ1 := fun A1 σ w τ => ∀ (s : SpC) (n : Nat), Pv_doOf s n A1 σ → Qv_doOf s n A1 σ w τ
set_option maxRecDepth 100000 in
set_option maxHeartbeats 4000000 in
theorem v_doOf (s : SpC) (n : Nat) : UMet 55 (Pv_doOf s n) (Qv_doOf s n) := by
  refine UMet.by BdoOf [(20, Pu_emit, Qu_emit), (36, (fun _ _ => True), Qw_open), (17, (fun _ _ => True), Qw_take), (35, Pu_thing, Qu_thing)] rfl (ucc u_emit (ucc w_open (ucc w_take (ucc u_thing uc0)))) ?_
  intro A1 σ hP K hB hW
  unfold Pv_doOf at hP
  split at hP
  next =>
    obtain ⟨hR, hg, hne, hcd⟩ := hP
    have hnn := hR.2.1
    have hm6 := hR.2.2.1.2.2.resolve_left hne
    intro n0_
    refine hB _ _ _ _ _ (fun m1 hm1 => ?_)
    dsimp only [ugo, uwp, ust, uct, rfd, BdoOf, Nat.beq, lv_args, rlk, rs1, rs2, rdl, rky, rcd, rno, rsw, Value.category, List.filter, List.take, List.drop, List.reverse, List.reverseAux, List.cons_append, List.nil_append, Option.toList, Int.toNat, Int.reduceToNat, if_pos, if_neg, reduceIte, ↓reduceIte, Nat.reduceAdd, Nat.reduceEqDiff, Nat.reduceBEq, beq_self_eq_true, Bool.not_true, Bool.not_false, Bool.and_true, Bool.and_false, Bool.true_and, Bool.false_and, gI_sI, gI_sL, gI_sA, gI_sM, gL_sI, gL_sL, gL_sA, gL_sM, aI_sI, aI_sL, aI_sA, aI_sM, aL_sI, aL_sL, aL_sA, aL_sM, BdoOf_0, BdoOf_37, BdoOf_47, BdoOf_51, BdoOf_52, oi_0, oi_1, oi_20, oi_29, oi_5, Pu_emit, Pu_thing]; try dsimp only
    refine ⟨trivial, fun w2 τ2 hq2 => ?_⟩
    obtain ⟨rfl, hE2⟩ := hq2
    have hR2 := SR.em (e_ := 0) (s := s) (n := n) (by repeat (first | exact hR | refine SR.i ?_ rfl | refine SR.a ?_ rfl)) hE2
    have hg2 := FgR.em (e_ := 0) (by repeat (first | exact hg | refine FgR.i ?_ rfl | refine FgR.a ?_ rfl)) (s := s) (n := n) (by repeat (first | exact hR | refine SR.i ?_ rfl | refine SR.a ?_ rfl)) hE2
    have hf2 := frR_em hE2
    dsimp only [Option.toList, List.cons_append, List.nil_append, Nat.beq, gI_sI, gI_sL, gI_sA, gI_sM, gL_sI, gL_sL, gL_sA, gL_sM, aI_sI, aI_sL, aI_sA, aI_sM, aL_sI, aL_sL, aL_sA, aL_sM]
    have k6_2 : 0 < gI τ2 36 := by rw [hE2.1 36 (by decide)]; exact hm6
    refine ⟨trivial, fun w3 τ3 hq3 => ?_⟩
    obtain ⟨rfl, hT3⟩ := hq3
    have hR3 := SR.th (e_ := 0) (s := s) (n := n) (by repeat (first | exact hR2 | refine SR.i ?_ rfl | refine SR.a ?_ rfl)) hT3
    have hg3 := FgR.th (e_ := 0) (by repeat (first | exact hg2 | refine FgR.i ?_ rfl | refine FgR.a ?_ rfl)) (s := s) (n := n) (by repeat (first | exact hR2 | refine SR.i ?_ rfl | refine SR.a ?_ rfl)) hT3
    have hf3 := frR_th hT3
    have hk3 := th49 hT3
    dsimp only [Option.toList, List.cons_append, List.nil_append, Nat.beq, gI_sI, gI_sL, gI_sA, gI_sM, gL_sI, gL_sL, gL_sA, gL_sM, aI_sI, aI_sL, aI_sA, aI_sM, aL_sI, aL_sL, aL_sA, aL_sM]
    have k6_3 : 0 < gI τ3 36 := by rw [hT3.1 36 (by decide)]; exact k6_2
    have k9_3 : nT (gI τ2 49) < nT (gI τ3 49) := kthx hk3
    refine ⟨trivial, fun w4 τ4 hq4 => ?_⟩
    obtain ⟨rfl, hE4⟩ := hq4
    have hR4 := SR.em (e_ := 0) (s := s) (n := n) (by repeat (first | exact hR3 | refine SR.i ?_ rfl | refine SR.a ?_ rfl)) hE4
    have hg4 := FgR.em (e_ := 0) (by repeat (first | exact hg3 | refine FgR.i ?_ rfl | refine FgR.a ?_ rfl)) (s := s) (n := n) (by repeat (first | exact hR3 | refine SR.i ?_ rfl | refine SR.a ?_ rfl)) hE4
    have hf4 := frR_em hE4
    dsimp only [Option.toList, List.cons_append, List.nil_append, Nat.beq, gI_sI, gI_sL, gI_sA, gI_sM, gL_sI, gL_sL, gL_sA, gL_sM, aI_sI, aI_sL, aI_sA, aI_sM, aL_sI, aL_sL, aL_sA, aL_sM]
    have k6_4 : 0 < gI τ4 36 := by rw [hE4.1 36 (by decide)]; exact k6_3
    have k9_4 : nT (gI τ2 49) < nT (gI τ4 49) := by rw [hE4.1 49 (by decide)]; exact k9_3
    refine ⟨trivial, fun w5 τ5 hq5 => ?_⟩
    have hq5 := hq5 _ s n ⟨(SR.x (e_ := 0) (by repeat (first | exact hR4 | refine SR.i ?_ rfl | refine SR.a ?_ rfl))), by omega, by omega⟩
    rcases hq5 with ⟨rfl, hF5⟩ | ⟨rfl, hX5, hz5, hS5⟩
    · dsimp only [Option.toList, List.cons_append, List.nil_append, Nat.beq, gI_sI, gI_sL, gI_sA, gI_sM, gL_sI, gL_sL, gL_sA, gL_sM, aI_sI, aI_sL, aI_sA, aI_sM, aL_sI, aL_sL, aL_sA, aL_sM]
      refine ⟨fun h6 => ?_, fun h6 => absurd h6 (by decide)⟩
      clear h6
      refine hB _ _ _ _ _ (fun m7 hm7 => ?_)
      dsimp only [ugo, uwp, ust, uct, rfd, BdoOf, Nat.beq, lv_args, rlk, rs1, rs2, rdl, rky, rcd, rno, rsw, Value.category, List.filter, List.take, List.drop, List.reverse, List.reverseAux, List.cons_append, List.nil_append, Option.toList, Int.toNat, Int.reduceToNat, if_pos, if_neg, reduceIte, ↓reduceIte, Nat.reduceAdd, Nat.reduceEqDiff, Nat.reduceBEq, beq_self_eq_true, Bool.not_true, Bool.not_false, Bool.and_true, Bool.and_false, Bool.true_and, Bool.false_and, gI_sI, gI_sL, gI_sA, gI_sM, gL_sI, gL_sL, gL_sA, gL_sM, aI_sI, aI_sL, aI_sA, aI_sM, aL_sI, aL_sL, aL_sA, aL_sM, BdoOf_0, BdoOf_37, BdoOf_47, BdoOf_51, BdoOf_52, oi_0, oi_1, oi_20, oi_29, oi_5, Pu_emit, Pu_thing]; try dsimp only
      refine hB _ _ _ _ _ (fun m8 hm8 => ?_)
      dsimp only [ugo, uwp, ust, uct, rfd, BdoOf, Nat.beq, lv_args, rlk, rs1, rs2, rdl, rky, rcd, rno, rsw, Value.category, List.filter, List.take, List.drop, List.reverse, List.reverseAux, List.cons_append, List.nil_append, Option.toList, Int.toNat, Int.reduceToNat, if_pos, if_neg, reduceIte, ↓reduceIte, Nat.reduceAdd, Nat.reduceEqDiff, Nat.reduceBEq, beq_self_eq_true, Bool.not_true, Bool.not_false, Bool.and_true, Bool.and_false, Bool.true_and, Bool.false_and, gI_sI, gI_sL, gI_sA, gI_sM, gL_sI, gL_sL, gL_sA, gL_sM, aI_sI, aI_sL, aI_sA, aI_sM, aL_sI, aL_sL, aL_sA, aL_sM, BdoOf_0, BdoOf_37, BdoOf_47, BdoOf_51, BdoOf_52, oi_0, oi_1, oi_20, oi_29, oi_5, Pu_emit, Pu_thing]; try dsimp only
      unfold Qv_doOf
      try dsimp only
      rw [st_do' hnn.2.1 hcd]
      refine StQ.f hF5 ?_
      exact (by repeat (first | with_reducible exact GpY.rf | with_reducible refine GpY.tr ?_ (gd_fo _) | with_reducible refine GpY.tr ?_ (gd_ef _) | with_reducible refine GpY.tr ?_ (gd_cf _) | with_reducible refine GpY.tr ?_ (gd_wt _) | with_reducible refine GpY.tr ?_ (gd_xp _) | with_reducible refine GpY.tr ?_ (gd_acc _) | with_reducible refine GpY.tr ?_ (gd_rai _) | with_reducible refine GpY.tr ?_ (gd_e _) | with_reducible refine GpY.tr ?_ (gd_o _) | with_reducible refine GpY.tr ?_ (gd_c _) | with_reducible refine GpY.tr ?_ (gd_op _) | with_reducible refine GpY.tr ?_ (gd_clp gd_e _ _) | with_reducible refine GpY.tr ?_ (gd_tl _) | with_reducible refine GpY.tr ?_ (gd_sf _ _ _) | with_reducible refine GpY.tr ?_ (gd_cl _) | with_reducible refine GpY.tr ?_ (gd_pc _) | with_reducible refine GpY.tr ?_ (gd_st _) | with_reducible refine GpY.tr ?_ (gd_rw _) | with_reducible refine GpY.tr ?_ (gd_typ _) | with_reducible refine GpY.tr ?_ (gd_dcl _) | with_reducible refine GpY.tr ?_ (gd_va2 _) | with_reducible refine GpY.tr ?_ (gd_cnd _) | with_reducible refine GpY.tr ?_ (gd_tr1 _) | with_reducible refine GpY.tr ?_ (gd_tr2 (fun _ => gd_rw) _) | with_reducible refine GpY.tr ?_ (gd_tr3 (fun _ => gd_rw) _) | with_reducible refine GpY.tr ?_ (gd_fo1 _) | with_reducible refine GpY.tr ?_ (gd_fo2 _) | with_reducible refine GpY.tr ?_ (gd_fo3 _) | with_reducible refine GpY.tr ?_ (gd_fex _) | with_reducible refine GpY.tr ?_ (pg_var.1) | with_reducible refine GpY.tr ?_ (pg_cas.1) | exact GpY.rf))
    · dsimp only [Option.toList, List.cons_append, List.nil_append, Nat.beq, gI_sI, gI_sL, gI_sA, gI_sM, gL_sI, gL_sL, gL_sA, gL_sM, aI_sI, aI_sL, aI_sA, aI_sM, aL_sI, aL_sL, aL_sA, aL_sM]
      have hR5 := SR.kr (e_ := 0) (by repeat (first | exact hR4 | refine SR.i ?_ rfl | refine SR.a ?_ rfl)) hX5 acc2
      have hg5 := FgR.kr (e_ := 0) (s := s) (n := n) (by repeat (first | exact hg4 | refine FgR.i ?_ rfl | refine FgR.a ?_ rfl)) (by repeat (first | exact hR4 | refine SR.i ?_ rfl | refine SR.a ?_ rfl)) hX5
      have hf5 := frR_kr hX5
      have k6_5 : 0 < gI τ5 36 := by rw [hX5.2.2.1.1 36 rfl]; exact k6_4
      have k9_5 : nT (gI τ2 49) < nT (gI τ5 49) := by rw [hX5.2.2.1.1 49 rfl]; exact k9_4
      refine ⟨fun h9 => absurd h9 (by decide), fun h9 => ?_⟩
      clear h9
      refine hB _ _ _ _ _ (fun m10 hm10 => ?_)
      dsimp only [ugo, uwp, ust, uct, rfd, BdoOf, Nat.beq, lv_args, rlk, rs1, rs2, rdl, rky, rcd, rno, rsw, Value.category, List.filter, List.take, List.drop, List.reverse, List.reverseAux, List.cons_append, List.nil_append, Option.toList, Int.toNat, Int.reduceToNat, if_pos, if_neg, reduceIte, ↓reduceIte, Nat.reduceAdd, Nat.reduceEqDiff, Nat.reduceBEq, beq_self_eq_true, Bool.not_true, Bool.not_false, Bool.and_true, Bool.and_false, Bool.true_and, Bool.false_and, gI_sI, gI_sL, gI_sA, gI_sM, gL_sI, gL_sL, gL_sA, gL_sM, aI_sI, aI_sL, aI_sA, aI_sM, aL_sI, aL_sL, aL_sA, aL_sM, BdoOf_0, BdoOf_37, BdoOf_47, BdoOf_51, BdoOf_52, oi_0, oi_1, oi_20, oi_29, oi_5, Pu_emit, Pu_thing]; try dsimp only
      refine ⟨trivial, fun w11 τ11 hq11 => ?_⟩
      have hq11 := hq11 (accY s) n ⟨(by repeat (first | exact hR5 | refine SR.i ?_ rfl | refine SR.a ?_ rfl)), (by repeat (first | exact hg5 | refine FgR.i ?_ rfl | refine FgR.a ?_ rfl)), k9_5, by decide, (iff_of_false (by decide) (by (try simp only [frR_i, frR_a, ne_eq, Nat.reduceEqDiff, not_false_eq_true, hf5, hf4, hf3, hf2]); exact hne)), k6_5, (fun q => absurd q (by decide))⟩
      rcases hq11 with ⟨rfl, hn11, hF11⟩ | ⟨rfl, hn11, hR11, hg11, hf11⟩
      · dsimp only [Option.toList, List.cons_append, List.nil_append, Nat.beq, gI_sI, gI_sL, gI_sA, gI_sM, gL_sI, gL_sL, gL_sA, gL_sM, aI_sI, aI_sL, aI_sA, aI_sM, aL_sI, aL_sL, aL_sA, aL_sM]
        refine ⟨fun h12 => ?_, fun h12 => absurd h12 (by decide)⟩
        clear h12
        refine hB _ _ _ _ _ (fun m13 hm13 => ?_)
        dsimp only [ugo, uwp, ust, uct, rfd, BdoOf, Nat.beq, lv_args, rlk, rs1, rs2, rdl, rky, rcd, rno, rsw, Value.category, List.filter, List.take, List.drop, List.reverse, List.reverseAux, List.cons_append, List.nil_append, Option.toList, Int.toNat, Int.reduceToNat, if_pos, if_neg, reduceIte, ↓reduceIte, Nat.reduceAdd, Nat.reduceEqDiff, Nat.reduceBEq, beq_self_eq_true, Bool.not_true, Bool.not_false, Bool.and_true, Bool.and_false, Bool.true_and, Bool.false_and, gI_sI, gI_sL, gI_sA, gI_sM, gL_sI, gL_sL, gL_sA, gL_sM, aI_sI, aI_sL, aI_sA, aI_sM, aL_sI, aL_sL, aL_sA, aL_sM, BdoOf_0, BdoOf_37, BdoOf_47, BdoOf_51, BdoOf_52, oi_0, oi_1, oi_20, oi_29, oi_5, Pu_emit, Pu_thing]; try dsimp only
        refine hB _ _ _ _ _ (fun m14 hm14 => ?_)
        dsimp only [ugo, uwp, ust, uct, rfd, BdoOf, Nat.beq, lv_args, rlk, rs1, rs2, rdl, rky, rcd, rno, rsw, Value.category, List.filter, List.take, List.drop, List.reverse, List.reverseAux, List.cons_append, List.nil_append, Option.toList, Int.toNat, Int.reduceToNat, if_pos, if_neg, reduceIte, ↓reduceIte, Nat.reduceAdd, Nat.reduceEqDiff, Nat.reduceBEq, beq_self_eq_true, Bool.not_true, Bool.not_false, Bool.and_true, Bool.and_false, Bool.true_and, Bool.false_and, gI_sI, gI_sL, gI_sA, gI_sM, gL_sI, gL_sL, gL_sA, gL_sM, aI_sI, aI_sL, aI_sA, aI_sM, aL_sI, aL_sL, aL_sA, aL_sM, BdoOf_0, BdoOf_37, BdoOf_47, BdoOf_51, BdoOf_52, oi_0, oi_1, oi_20, oi_29, oi_5, Pu_emit, Pu_thing]; try dsimp only
        unfold Qv_doOf
        try dsimp only
        rw [st_do' hnn.2.1 hcd, st_0 hn11]
        refine StQ.f hF11 ?_
        exact (by repeat (first | with_reducible exact GpY.rf | with_reducible refine GpY.tr ?_ (gd_fo _) | with_reducible refine GpY.tr ?_ (gd_ef _) | with_reducible refine GpY.tr ?_ (gd_cf _) | with_reducible refine GpY.tr ?_ (gd_wt _) | with_reducible refine GpY.tr ?_ (gd_xp _) | with_reducible refine GpY.tr ?_ (gd_acc _) | with_reducible refine GpY.tr ?_ (gd_rai _) | with_reducible refine GpY.tr ?_ (gd_e _) | with_reducible refine GpY.tr ?_ (gd_o _) | with_reducible refine GpY.tr ?_ (gd_c _) | with_reducible refine GpY.tr ?_ (gd_op _) | with_reducible refine GpY.tr ?_ (gd_clp gd_e _ _) | with_reducible refine GpY.tr ?_ (gd_tl _) | with_reducible refine GpY.tr ?_ (gd_sf _ _ _) | with_reducible refine GpY.tr ?_ (gd_cl _) | with_reducible refine GpY.tr ?_ (gd_pc _) | with_reducible refine GpY.tr ?_ (gd_st _) | with_reducible refine GpY.tr ?_ (gd_rw _) | with_reducible refine GpY.tr ?_ (gd_typ _) | with_reducible refine GpY.tr ?_ (gd_dcl _) | with_reducible refine GpY.tr ?_ (gd_va2 _) | with_reducible refine GpY.tr ?_ (gd_cnd _) | with_reducible refine GpY.tr ?_ (gd_tr1 _) | with_reducible refine GpY.tr ?_ (gd_tr2 (fun _ => gd_rw) _) | with_reducible refine GpY.tr ?_ (gd_tr3 (fun _ => gd_rw) _) | with_reducible refine GpY.tr ?_ (gd_fo1 _) | with_reducible refine GpY.tr ?_ (gd_fo2 _) | with_reducible refine GpY.tr ?_ (gd_fo3 _) | with_reducible refine GpY.tr ?_ (gd_fex _) | with_reducible refine GpY.tr ?_ (pg_var.1) | with_reducible refine GpY.tr ?_ (pg_cas.1) | exact GpY.rf))
      · dsimp only [Option.toList, List.cons_append, List.nil_append, Nat.beq, gI_sI, gI_sL, gI_sA, gI_sM, gL_sI, gL_sL, gL_sA, gL_sM, aI_sI, aI_sL, aI_sA, aI_sM, aL_sI, aL_sL, aL_sA, aL_sM]
        have hf11 : frR τ11 = (5 : Int) :: _ := hf11
        refine ⟨fun h15 => absurd h15 (by decide), fun h15 => ?_⟩
        clear h15
        refine hB _ _ _ _ _ (fun m16 hm16 => ?_)
        dsimp only [ugo, uwp, ust, uct, rfd, BdoOf, Nat.beq, lv_args, rlk, rs1, rs2, rdl, rky, rcd, rno, rsw, Value.category, List.filter, List.take, List.drop, List.reverse, List.reverseAux, List.cons_append, List.nil_append, Option.toList, Int.toNat, Int.reduceToNat, if_pos, if_neg, reduceIte, ↓reduceIte, Nat.reduceAdd, Nat.reduceEqDiff, Nat.reduceBEq, beq_self_eq_true, Bool.not_true, Bool.not_false, Bool.and_true, Bool.and_false, Bool.true_and, Bool.false_and, gI_sI, gI_sL, gI_sA, gI_sM, gL_sI, gL_sL, gL_sA, gL_sM, aI_sI, aI_sL, aI_sA, aI_sM, aL_sI, aL_sL, aL_sA, aL_sM, BdoOf_0, BdoOf_37, BdoOf_47, BdoOf_51, BdoOf_52, oi_0, oi_1, oi_20, oi_29, oi_5, Pu_emit, Pu_thing]; try dsimp only
        refine hB _ _ _ _ _ (fun m17 hm17 => ?_)
        dsimp only [ugo, uwp, ust, uct, rfd, BdoOf, Nat.beq, lv_args, rlk, rs1, rs2, rdl, rky, rcd, rno, rsw, Value.category, List.filter, List.take, List.drop, List.reverse, List.reverseAux, List.cons_append, List.nil_append, Option.toList, Int.toNat, Int.reduceToNat, if_pos, if_neg, reduceIte, ↓reduceIte, Nat.reduceAdd, Nat.reduceEqDiff, Nat.reduceBEq, beq_self_eq_true, Bool.not_true, Bool.not_false, Bool.and_true, Bool.and_false, Bool.true_and, Bool.false_and, gI_sI, gI_sL, gI_sA, gI_sM, gL_sI, gL_sL, gL_sA, gL_sM, aI_sI, aI_sL, aI_sA, aI_sM, aL_sI, aL_sL, aL_sA, aL_sM, BdoOf_0, BdoOf_37, BdoOf_47, BdoOf_51, BdoOf_52, oi_0, oi_1, oi_20, oi_29, oi_5, Pu_emit, Pu_thing]; try dsimp only
        unfold Qv_doOf
        try dsimp only
        refine Or.inr ⟨rfl, (accY s), (n - 1), 1, (by repeat (first | exact hR11 | refine SR.i ?_ rfl | refine SR.a ?_ rfl)), (by repeat (first | exact hg11 | refine FgR.i ?_ rfl | refine FgR.a ?_ rfl)), ?_⟩
        rw [st_do' hnn.2.1 hcd]
        simp only [frR_i, frR_a, ne_eq, Nat.reduceEqDiff, not_false_eq_true, hf11, hf5, hf4, hf3, hf2]
        exact pc_st (by decide)
  next => exact hP.elim
theorem w_doOf : UMet 55 (fun _ _ => True) Qw_doOf := fun A1 σ _ w τ h s n hP => v_doOf s n A1 σ hP w τ h
def Pv_tryOf (s : SpC) (n : Nat) : UP1 := fun A1 σ => match A1 with
  | [] => SR σ s n ∧ FgR σ 0 ∧ frR σ ≠ [] ∧ codY s = 68
  | _ => False
def Qv_tryOf (s : SpC) (n : Nat) : UQ1 := fun A1 σ w τ => match A1 with
  | [] => StQ τ (sfY (frR σ) n (stY n s)) w
  | _ => False
def Qw_tryOf : UQ1 := fun A1 σ w τ => ∀ (s : SpC) (n : Nat), Pv_tryOf s n A1 σ → Qv_tryOf s n A1 σ w τ
set_option maxRecDepth 100000 in
set_option maxHeartbeats 4000000 in
theorem v_tryOf (s : SpC) (n : Nat) : UMet 66 (Pv_tryOf s n) (Qv_tryOf s n) := by
  refine UMet.by BtryOf [(20, Pu_emit, Qu_emit), (36, (fun _ _ => True), Qw_open), (17, (fun _ _ => True), Qw_take), (35, Pu_thing, Qu_thing), (18, (fun _ _ => True), Qw_want)] rfl (ucc u_emit (ucc w_open (ucc w_take (ucc u_thing (ucc w_want uc0))))) ?_
  intro A1 σ hP K hB hW
  unfold Pv_tryOf at hP
  split at hP
  next =>
    obtain ⟨hR, hg, hne, hcd⟩ := hP
    have hnn := hR.2.1
    have hm6 := hR.2.2.1.2.2.resolve_left hne
    intro n0_
    refine hB _ _ _ _ _ (fun m1 hm1 => ?_)
    dsimp only [ugo, uwp, ust, uct, rfd, BtryOf, Nat.beq, lv_args, rlk, rs1, rs2, rdl, rky, rcd, rno, rsw, Value.category, List.filter, List.take, List.drop, List.reverse, List.reverseAux, List.cons_append, List.nil_append, Option.toList, Int.toNat, Int.reduceToNat, if_pos, if_neg, reduceIte, ↓reduceIte, Nat.reduceAdd, Nat.reduceEqDiff, Nat.reduceBEq, beq_self_eq_true, Bool.not_true, Bool.not_false, Bool.and_true, Bool.and_false, Bool.true_and, Bool.false_and, gI_sI, gI_sL, gI_sA, gI_sM, gL_sI, gL_sL, gL_sA, gL_sM, aI_sI, aI_sL, aI_sA, aI_sM, aL_sI, aL_sL, aL_sA, aL_sM, BtryOf_0, BtryOf_29, BtryOf_31, BtryOf_49, BtryOf_60, BtryOf_64, BtryOf_65, oi_0, oi_1, oi_123, oi_20, oi_50, oi_9, Pu_emit, Pu_thing]; try dsimp only
    refine ⟨trivial, fun w2 τ2 hq2 => ?_⟩
    obtain ⟨rfl, hE2⟩ := hq2
    have hR2 := SR.em (e_ := 0) (s := s) (n := n) (by repeat (first | exact hR | refine SR.i ?_ rfl | refine SR.a ?_ rfl)) hE2
    have hg2 := FgR.em (e_ := 0) (by repeat (first | exact hg | refine FgR.i ?_ rfl | refine FgR.a ?_ rfl)) (s := s) (n := n) (by repeat (first | exact hR | refine SR.i ?_ rfl | refine SR.a ?_ rfl)) hE2
    have hf2 := frR_em hE2
    dsimp only [Option.toList, List.cons_append, List.nil_append, Nat.beq, gI_sI, gI_sL, gI_sA, gI_sM, gL_sI, gL_sL, gL_sA, gL_sM, aI_sI, aI_sL, aI_sA, aI_sM, aL_sI, aL_sL, aL_sA, aL_sM]
    have k6_2 : 0 < gI τ2 36 := by rw [hE2.1 36 (by decide)]; exact hm6
    refine ⟨trivial, fun w3 τ3 hq3 => ?_⟩
    obtain ⟨rfl, hT3⟩ := hq3
    have hR3 := SR.th (e_ := 0) (s := s) (n := n) (by repeat (first | exact hR2 | refine SR.i ?_ rfl | refine SR.a ?_ rfl)) hT3
    have hg3 := FgR.th (e_ := 0) (by repeat (first | exact hg2 | refine FgR.i ?_ rfl | refine FgR.a ?_ rfl)) (s := s) (n := n) (by repeat (first | exact hR2 | refine SR.i ?_ rfl | refine SR.a ?_ rfl)) hT3
    have hf3 := frR_th hT3
    have hk3 := th49 hT3
    dsimp only [Option.toList, List.cons_append, List.nil_append, Nat.beq, gI_sI, gI_sL, gI_sA, gI_sM, gL_sI, gL_sL, gL_sA, gL_sM, aI_sI, aI_sL, aI_sA, aI_sM, aL_sI, aL_sL, aL_sA, aL_sM]
    have k6_3 : 0 < gI τ3 36 := by rw [hT3.1 36 (by decide)]; exact k6_2
    have k9_3 : nT (gI τ2 49) < nT (gI τ3 49) := kthx hk3
    refine ⟨trivial, fun w4 τ4 hq4 => ?_⟩
    have hq4 := hq4 _ s n ⟨(SR.x (e_ := 0) (by repeat (first | exact hR3 | refine SR.i ?_ rfl | refine SR.a ?_ rfl))), by omega, by omega⟩
    rcases hq4 with ⟨rfl, hF4⟩ | ⟨rfl, hX4, hz4, hS4⟩
    · dsimp only [Option.toList, List.cons_append, List.nil_append, Nat.beq, gI_sI, gI_sL, gI_sA, gI_sM, gL_sI, gL_sL, gL_sA, gL_sM, aI_sI, aI_sL, aI_sA, aI_sM, aL_sI, aL_sL, aL_sA, aL_sM]
      refine ⟨fun h5 => absurd h5 (by decide), fun h5 => ?_⟩
      clear h5
      refine hB _ _ _ _ _ (fun m6 hm6 => ?_)
      dsimp only [ugo, uwp, ust, uct, rfd, BtryOf, Nat.beq, lv_args, rlk, rs1, rs2, rdl, rky, rcd, rno, rsw, Value.category, List.filter, List.take, List.drop, List.reverse, List.reverseAux, List.cons_append, List.nil_append, Option.toList, Int.toNat, Int.reduceToNat, if_pos, if_neg, reduceIte, ↓reduceIte, Nat.reduceAdd, Nat.reduceEqDiff, Nat.reduceBEq, beq_self_eq_true, Bool.not_true, Bool.not_false, Bool.and_true, Bool.and_false, Bool.true_and, Bool.false_and, gI_sI, gI_sL, gI_sA, gI_sM, gL_sI, gL_sL, gL_sA, gL_sM, aI_sI, aI_sL, aI_sA, aI_sM, aL_sI, aL_sL, aL_sA, aL_sM, BtryOf_0, BtryOf_29, BtryOf_31, BtryOf_49, BtryOf_60, BtryOf_64, BtryOf_65, oi_0, oi_1, oi_123, oi_20, oi_50, oi_9, Pu_emit, Pu_thing]; try dsimp only
      unfold Qv_tryOf
      try dsimp only
      rw [st_try' hnn.2.1 hcd]
      refine StQ.f hF4 ?_
      exact (by repeat (first | with_reducible exact GpY.rf | with_reducible refine GpY.tr ?_ (gd_fo _) | with_reducible refine GpY.tr ?_ (gd_ef _) | with_reducible refine GpY.tr ?_ (gd_cf _) | with_reducible refine GpY.tr ?_ (gd_wt _) | with_reducible refine GpY.tr ?_ (gd_xp _) | with_reducible refine GpY.tr ?_ (gd_acc _) | with_reducible refine GpY.tr ?_ (gd_rai _) | with_reducible refine GpY.tr ?_ (gd_e _) | with_reducible refine GpY.tr ?_ (gd_o _) | with_reducible refine GpY.tr ?_ (gd_c _) | with_reducible refine GpY.tr ?_ (gd_op _) | with_reducible refine GpY.tr ?_ (gd_clp gd_e _ _) | with_reducible refine GpY.tr ?_ (gd_tl _) | with_reducible refine GpY.tr ?_ (gd_sf _ _ _) | with_reducible refine GpY.tr ?_ (gd_cl _) | with_reducible refine GpY.tr ?_ (gd_pc _) | with_reducible refine GpY.tr ?_ (gd_st _) | with_reducible refine GpY.tr ?_ (gd_rw _) | with_reducible refine GpY.tr ?_ (gd_typ _) | with_reducible refine GpY.tr ?_ (gd_dcl _) | with_reducible refine GpY.tr ?_ (gd_va2 _) | with_reducible refine GpY.tr ?_ (gd_cnd _) | with_reducible refine GpY.tr ?_ (gd_tr1 _) | with_reducible refine GpY.tr ?_ (gd_tr2 (fun _ => gd_rw) _) | with_reducible refine GpY.tr ?_ (gd_tr3 (fun _ => gd_rw) _) | with_reducible refine GpY.tr ?_ (gd_fo1 _) | with_reducible refine GpY.tr ?_ (gd_fo2 _) | with_reducible refine GpY.tr ?_ (gd_fo3 _) | with_reducible refine GpY.tr ?_ (gd_fex _) | with_reducible refine GpY.tr ?_ (pg_var.1) | with_reducible refine GpY.tr ?_ (pg_cas.1) | exact GpY.rf))
    · dsimp only [Option.toList, List.cons_append, List.nil_append, Nat.beq, gI_sI, gI_sL, gI_sA, gI_sM, gL_sI, gL_sL, gL_sA, gL_sM, aI_sI, aI_sL, aI_sA, aI_sM, aL_sI, aL_sL, aL_sA, aL_sM]
      have hR4 := SR.kr (e_ := 0) (by repeat (first | exact hR3 | refine SR.i ?_ rfl | refine SR.a ?_ rfl)) hX4 acc2
      have hg4 := FgR.kr (e_ := 0) (s := s) (n := n) (by repeat (first | exact hg3 | refine FgR.i ?_ rfl | refine FgR.a ?_ rfl)) (by repeat (first | exact hR3 | refine SR.i ?_ rfl | refine SR.a ?_ rfl)) hX4
      have hf4 := frR_kr hX4
      have k6_4 : 0 < gI τ4 36 := by rw [hX4.2.2.1.1 36 rfl]; exact k6_3
      have k9_4 : nT (gI τ2 49) < nT (gI τ4 49) := by rw [hX4.2.2.1.1 49 rfl]; exact k9_3
      refine ⟨fun h7 => ?_, fun h7 => absurd h7 (by decide)⟩
      clear h7
      refine hB _ _ _ _ _ (fun m8 hm8 => ?_)
      dsimp only [ugo, uwp, ust, uct, rfd, BtryOf, Nat.beq, lv_args, rlk, rs1, rs2, rdl, rky, rcd, rno, rsw, Value.category, List.filter, List.take, List.drop, List.reverse, List.reverseAux, List.cons_append, List.nil_append, Option.toList, Int.toNat, Int.reduceToNat, if_pos, if_neg, reduceIte, ↓reduceIte, Nat.reduceAdd, Nat.reduceEqDiff, Nat.reduceBEq, beq_self_eq_true, Bool.not_true, Bool.not_false, Bool.and_true, Bool.and_false, Bool.true_and, Bool.false_and, gI_sI, gI_sL, gI_sA, gI_sM, gL_sI, gL_sL, gL_sA, gL_sM, aI_sI, aI_sL, aI_sA, aI_sM, aL_sI, aL_sL, aL_sA, aL_sM, BtryOf_0, BtryOf_29, BtryOf_31, BtryOf_49, BtryOf_60, BtryOf_64, BtryOf_65, oi_0, oi_1, oi_123, oi_20, oi_50, oi_9, Pu_emit, Pu_thing]; try dsimp only
      refine ⟨trivial, fun w9 τ9 hq9 => ?_⟩
      obtain ⟨rfl, hE9⟩ := hq9
      have hR9 := SR.em (e_ := 0) (s := (accY s)) (n := n) (by repeat (first | exact hR4 | refine SR.i ?_ rfl | refine SR.a ?_ rfl)) hE9
      have hg9 := FgR.em (e_ := 0) (by repeat (first | exact hg4 | refine FgR.i ?_ rfl | refine FgR.a ?_ rfl)) (s := (accY s)) (n := n) (by repeat (first | exact hR4 | refine SR.i ?_ rfl | refine SR.a ?_ rfl)) hE9
      have hf9 := frR_em hE9
      dsimp only [Option.toList, List.cons_append, List.nil_append, Nat.beq, gI_sI, gI_sL, gI_sA, gI_sM, gL_sI, gL_sL, gL_sA, gL_sM, aI_sI, aI_sL, aI_sA, aI_sM, aL_sI, aL_sL, aL_sA, aL_sM]
      have k6_9 : 0 < gI τ9 36 := by rw [hE9.1 36 (by decide)]; exact k6_4
      have k9_9 : nT (gI τ2 49) < nT (gI τ9 49) := by rw [hE9.1 49 (by decide)]; exact k9_4
      refine ⟨trivial, fun w10 τ10 hq10 => ?_⟩
      have hq10 := hq10 _ (accY s) n 2 ⟨(SR.x (e_ := 0) (by repeat (first | exact hR9 | refine SR.i ?_ rfl | refine SR.a ?_ rfl))), by decide⟩
      rcases hq10 with ⟨rfl, hF10⟩ | ⟨rfl, hc10, hX10, hz10, hS10⟩
      · dsimp only [Option.toList, List.cons_append, List.nil_append, Nat.beq, gI_sI, gI_sL, gI_sA, gI_sM, gL_sI, gL_sL, gL_sA, gL_sM, aI_sI, aI_sL, aI_sA, aI_sM, aL_sI, aL_sL, aL_sA, aL_sM]
        refine ⟨fun h11 => ?_, fun h11 => absurd h11 (by decide)⟩
        clear h11
        refine hB _ _ _ _ _ (fun m12 hm12 => ?_)
        dsimp only [ugo, uwp, ust, uct, rfd, BtryOf, Nat.beq, lv_args, rlk, rs1, rs2, rdl, rky, rcd, rno, rsw, Value.category, List.filter, List.take, List.drop, List.reverse, List.reverseAux, List.cons_append, List.nil_append, Option.toList, Int.toNat, Int.reduceToNat, if_pos, if_neg, reduceIte, ↓reduceIte, Nat.reduceAdd, Nat.reduceEqDiff, Nat.reduceBEq, beq_self_eq_true, Bool.not_true, Bool.not_false, Bool.and_true, Bool.and_false, Bool.true_and, Bool.false_and, gI_sI, gI_sL, gI_sA, gI_sM, gL_sI, gL_sL, gL_sA, gL_sM, aI_sI, aI_sL, aI_sA, aI_sM, aL_sI, aL_sL, aL_sA, aL_sM, BtryOf_0, BtryOf_29, BtryOf_31, BtryOf_49, BtryOf_60, BtryOf_64, BtryOf_65, oi_0, oi_1, oi_123, oi_20, oi_50, oi_9, Pu_emit, Pu_thing]; try dsimp only
        refine hB _ _ _ _ _ (fun m13 hm13 => ?_)
        dsimp only [ugo, uwp, ust, uct, rfd, BtryOf, Nat.beq, lv_args, rlk, rs1, rs2, rdl, rky, rcd, rno, rsw, Value.category, List.filter, List.take, List.drop, List.reverse, List.reverseAux, List.cons_append, List.nil_append, Option.toList, Int.toNat, Int.reduceToNat, if_pos, if_neg, reduceIte, ↓reduceIte, Nat.reduceAdd, Nat.reduceEqDiff, Nat.reduceBEq, beq_self_eq_true, Bool.not_true, Bool.not_false, Bool.and_true, Bool.and_false, Bool.true_and, Bool.false_and, gI_sI, gI_sL, gI_sA, gI_sM, gL_sI, gL_sL, gL_sA, gL_sM, aI_sI, aI_sL, aI_sA, aI_sM, aL_sI, aL_sL, aL_sA, aL_sM, BtryOf_0, BtryOf_29, BtryOf_31, BtryOf_49, BtryOf_60, BtryOf_64, BtryOf_65, oi_0, oi_1, oi_123, oi_20, oi_50, oi_9, Pu_emit, Pu_thing]; try dsimp only
        unfold Qv_tryOf
        try dsimp only
        rw [st_try' hnn.2.1 hcd]
        refine StQ.f hF10 ?_
        exact (by repeat (first | with_reducible exact GpY.rf | with_reducible refine GpY.tr ?_ (gd_fo _) | with_reducible refine GpY.tr ?_ (gd_ef _) | with_reducible refine GpY.tr ?_ (gd_cf _) | with_reducible refine GpY.tr ?_ (gd_wt _) | with_reducible refine GpY.tr ?_ (gd_xp _) | with_reducible refine GpY.tr ?_ (gd_acc _) | with_reducible refine GpY.tr ?_ (gd_rai _) | with_reducible refine GpY.tr ?_ (gd_e _) | with_reducible refine GpY.tr ?_ (gd_o _) | with_reducible refine GpY.tr ?_ (gd_c _) | with_reducible refine GpY.tr ?_ (gd_op _) | with_reducible refine GpY.tr ?_ (gd_clp gd_e _ _) | with_reducible refine GpY.tr ?_ (gd_tl _) | with_reducible refine GpY.tr ?_ (gd_sf _ _ _) | with_reducible refine GpY.tr ?_ (gd_cl _) | with_reducible refine GpY.tr ?_ (gd_pc _) | with_reducible refine GpY.tr ?_ (gd_st _) | with_reducible refine GpY.tr ?_ (gd_rw _) | with_reducible refine GpY.tr ?_ (gd_typ _) | with_reducible refine GpY.tr ?_ (gd_dcl _) | with_reducible refine GpY.tr ?_ (gd_va2 _) | with_reducible refine GpY.tr ?_ (gd_cnd _) | with_reducible refine GpY.tr ?_ (gd_tr1 _) | with_reducible refine GpY.tr ?_ (gd_tr2 (fun _ => gd_rw) _) | with_reducible refine GpY.tr ?_ (gd_tr3 (fun _ => gd_rw) _) | with_reducible refine GpY.tr ?_ (gd_fo1 _) | with_reducible refine GpY.tr ?_ (gd_fo2 _) | with_reducible refine GpY.tr ?_ (gd_fo3 _) | with_reducible refine GpY.tr ?_ (gd_fex _) | with_reducible refine GpY.tr ?_ (pg_var.1) | with_reducible refine GpY.tr ?_ (pg_cas.1) | exact GpY.rf))
      · dsimp only [Option.toList, List.cons_append, List.nil_append, Nat.beq, gI_sI, gI_sL, gI_sA, gI_sM, gL_sI, gL_sL, gL_sA, gL_sM, aI_sI, aI_sL, aI_sA, aI_sM, aL_sI, aL_sL, aL_sA, aL_sM]
        have hR10 := SR.kr (e_ := 0) (by repeat (first | exact hR9 | refine SR.i ?_ rfl | refine SR.a ?_ rfl)) hX10 acc2
        have hg10 := FgR.kr (e_ := 0) (s := (accY s)) (n := n) (by repeat (first | exact hg9 | refine FgR.i ?_ rfl | refine FgR.a ?_ rfl)) (by repeat (first | exact hR9 | refine SR.i ?_ rfl | refine SR.a ?_ rfl)) hX10
        have hf10 := frR_kr hX10
        have k6_10 : 0 < gI τ10 36 := by rw [hX10.2.2.1.1 36 rfl]; exact k6_9
        have k9_10 : nT (gI τ2 49) < nT (gI τ10 49) := by rw [hX10.2.2.1.1 49 rfl]; exact k9_9
        refine ⟨fun h14 => absurd h14 (by decide), fun h14 => ?_⟩
        clear h14
        refine hB _ _ _ _ _ (fun m15 hm15 => ?_)
        dsimp only [ugo, uwp, ust, uct, rfd, BtryOf, Nat.beq, lv_args, rlk, rs1, rs2, rdl, rky, rcd, rno, rsw, Value.category, List.filter, List.take, List.drop, List.reverse, List.reverseAux, List.cons_append, List.nil_append, Option.toList, Int.toNat, Int.reduceToNat, if_pos, if_neg, reduceIte, ↓reduceIte, Nat.reduceAdd, Nat.reduceEqDiff, Nat.reduceBEq, beq_self_eq_true, Bool.not_true, Bool.not_false, Bool.and_true, Bool.and_false, Bool.true_and, Bool.false_and, gI_sI, gI_sL, gI_sA, gI_sM, gL_sI, gL_sL, gL_sA, gL_sM, aI_sI, aI_sL, aI_sA, aI_sM, aL_sI, aL_sL, aL_sA, aL_sM, BtryOf_0, BtryOf_29, BtryOf_31, BtryOf_49, BtryOf_60, BtryOf_64, BtryOf_65, oi_0, oi_1, oi_123, oi_20, oi_50, oi_9, Pu_emit, Pu_thing]; try dsimp only
        refine ⟨trivial, fun w16 τ16 hq16 => ?_⟩
        have hq16 := hq16 (accY (accY s)) n ⟨(by repeat (first | exact hR10 | refine SR.i ?_ rfl | refine SR.a ?_ rfl)), (by repeat (first | exact hg10 | refine FgR.i ?_ rfl | refine FgR.a ?_ rfl)), k9_10, by decide, (iff_of_false (by decide) (by (try simp only [frR_i, frR_a, ne_eq, Nat.reduceEqDiff, not_false_eq_true, hf10, hf9, hf4, hf3, hf2]); exact hne)), k6_10, (fun q => absurd q (by decide))⟩
        rcases hq16 with ⟨rfl, hn16, hF16⟩ | ⟨rfl, hn16, hR16, hg16, hf16⟩
        · dsimp only [Option.toList, List.cons_append, List.nil_append, Nat.beq, gI_sI, gI_sL, gI_sA, gI_sM, gL_sI, gL_sL, gL_sA, gL_sM, aI_sI, aI_sL, aI_sA, aI_sM, aL_sI, aL_sL, aL_sA, aL_sM]
          refine ⟨fun h17 => ?_, fun h17 => absurd h17 (by decide)⟩
          clear h17
          refine hB _ _ _ _ _ (fun m18 hm18 => ?_)
          dsimp only [ugo, uwp, ust, uct, rfd, BtryOf, Nat.beq, lv_args, rlk, rs1, rs2, rdl, rky, rcd, rno, rsw, Value.category, List.filter, List.take, List.drop, List.reverse, List.reverseAux, List.cons_append, List.nil_append, Option.toList, Int.toNat, Int.reduceToNat, if_pos, if_neg, reduceIte, ↓reduceIte, Nat.reduceAdd, Nat.reduceEqDiff, Nat.reduceBEq, beq_self_eq_true, Bool.not_true, Bool.not_false, Bool.and_true, Bool.and_false, Bool.true_and, Bool.false_and, gI_sI, gI_sL, gI_sA, gI_sM, gL_sI, gL_sL, gL_sA, gL_sM, aI_sI, aI_sL, aI_sA, aI_sM, aL_sI, aL_sL, aL_sA, aL_sM, BtryOf_0, BtryOf_29, BtryOf_31, BtryOf_49, BtryOf_60, BtryOf_64, BtryOf_65, oi_0, oi_1, oi_123, oi_20, oi_50, oi_9, Pu_emit, Pu_thing]; try dsimp only
          refine hB _ _ _ _ _ (fun m19 hm19 => ?_)
          dsimp only [ugo, uwp, ust, uct, rfd, BtryOf, Nat.beq, lv_args, rlk, rs1, rs2, rdl, rky, rcd, rno, rsw, Value.category, List.filter, List.take, List.drop, List.reverse, List.reverseAux, List.cons_append, List.nil_append, Option.toList, Int.toNat, Int.reduceToNat, if_pos, if_neg, reduceIte, ↓reduceIte, Nat.reduceAdd, Nat.reduceEqDiff, Nat.reduceBEq, beq_self_eq_true, Bool.not_true, Bool.not_false, Bool.and_true, Bool.and_false, Bool.true_and, Bool.false_and, gI_sI, gI_sL, gI_sA, gI_sM, gL_sI, gL_sL, gL_sA, gL_sM, aI_sI, aI_sL, aI_sA, aI_sM, aL_sI, aL_sL, aL_sA, aL_sM, BtryOf_0, BtryOf_29, BtryOf_31, BtryOf_49, BtryOf_60, BtryOf_64, BtryOf_65, oi_0, oi_1, oi_123, oi_20, oi_50, oi_9, Pu_emit, Pu_thing]; try dsimp only
          unfold Qv_tryOf
          try dsimp only
          rw [st_try' hnn.2.1 hcd, xp_y hc10, rw_0 hn16]
          refine StQ.f hF16 ?_
          exact (by repeat (first | with_reducible exact GpY.rf | with_reducible refine GpY.tr ?_ (gd_fo _) | with_reducible refine GpY.tr ?_ (gd_ef _) | with_reducible refine GpY.tr ?_ (gd_cf _) | with_reducible refine GpY.tr ?_ (gd_wt _) | with_reducible refine GpY.tr ?_ (gd_xp _) | with_reducible refine GpY.tr ?_ (gd_acc _) | with_reducible refine GpY.tr ?_ (gd_rai _) | with_reducible refine GpY.tr ?_ (gd_e _) | with_reducible refine GpY.tr ?_ (gd_o _) | with_reducible refine GpY.tr ?_ (gd_c _) | with_reducible refine GpY.tr ?_ (gd_op _) | with_reducible refine GpY.tr ?_ (gd_clp gd_e _ _) | with_reducible refine GpY.tr ?_ (gd_tl _) | with_reducible refine GpY.tr ?_ (gd_sf _ _ _) | with_reducible refine GpY.tr ?_ (gd_cl _) | with_reducible refine GpY.tr ?_ (gd_pc _) | with_reducible refine GpY.tr ?_ (gd_st _) | with_reducible refine GpY.tr ?_ (gd_rw _) | with_reducible refine GpY.tr ?_ (gd_typ _) | with_reducible refine GpY.tr ?_ (gd_dcl _) | with_reducible refine GpY.tr ?_ (gd_va2 _) | with_reducible refine GpY.tr ?_ (gd_cnd _) | with_reducible refine GpY.tr ?_ (gd_tr1 _) | with_reducible refine GpY.tr ?_ (gd_tr2 (fun _ => gd_rw) _) | with_reducible refine GpY.tr ?_ (gd_tr3 (fun _ => gd_rw) _) | with_reducible refine GpY.tr ?_ (gd_fo1 _) | with_reducible refine GpY.tr ?_ (gd_fo2 _) | with_reducible refine GpY.tr ?_ (gd_fo3 _) | with_reducible refine GpY.tr ?_ (gd_fex _) | with_reducible refine GpY.tr ?_ (pg_var.1) | with_reducible refine GpY.tr ?_ (pg_cas.1) | exact GpY.rf))
        · dsimp only [Option.toList, List.cons_append, List.nil_append, Nat.beq, gI_sI, gI_sL, gI_sA, gI_sM, gL_sI, gL_sL, gL_sA, gL_sM, aI_sI, aI_sL, aI_sA, aI_sM, aL_sI, aL_sL, aL_sA, aL_sM]
          have hf16 : frR τ16 = (9 : Int) :: _ := hf16
          refine ⟨fun h20 => absurd h20 (by decide), fun h20 => ?_⟩
          clear h20
          refine hB _ _ _ _ _ (fun m21 hm21 => ?_)
          dsimp only [ugo, uwp, ust, uct, rfd, BtryOf, Nat.beq, lv_args, rlk, rs1, rs2, rdl, rky, rcd, rno, rsw, Value.category, List.filter, List.take, List.drop, List.reverse, List.reverseAux, List.cons_append, List.nil_append, Option.toList, Int.toNat, Int.reduceToNat, if_pos, if_neg, reduceIte, ↓reduceIte, Nat.reduceAdd, Nat.reduceEqDiff, Nat.reduceBEq, beq_self_eq_true, Bool.not_true, Bool.not_false, Bool.and_true, Bool.and_false, Bool.true_and, Bool.false_and, gI_sI, gI_sL, gI_sA, gI_sM, gL_sI, gL_sL, gL_sA, gL_sM, aI_sI, aI_sL, aI_sA, aI_sM, aL_sI, aL_sL, aL_sA, aL_sM, BtryOf_0, BtryOf_29, BtryOf_31, BtryOf_49, BtryOf_60, BtryOf_64, BtryOf_65, oi_0, oi_1, oi_123, oi_20, oi_50, oi_9, Pu_emit, Pu_thing]; try dsimp only
          refine hB _ _ _ _ _ (fun m22 hm22 => ?_)
          dsimp only [ugo, uwp, ust, uct, rfd, BtryOf, Nat.beq, lv_args, rlk, rs1, rs2, rdl, rky, rcd, rno, rsw, Value.category, List.filter, List.take, List.drop, List.reverse, List.reverseAux, List.cons_append, List.nil_append, Option.toList, Int.toNat, Int.reduceToNat, if_pos, if_neg, reduceIte, ↓reduceIte, Nat.reduceAdd, Nat.reduceEqDiff, Nat.reduceBEq, beq_self_eq_true, Bool.not_true, Bool.not_false, Bool.and_true, Bool.and_false, Bool.true_and, Bool.false_and, gI_sI, gI_sL, gI_sA, gI_sM, gL_sI, gL_sL, gL_sA, gL_sM, aI_sI, aI_sL, aI_sA, aI_sM, aL_sI, aL_sL, aL_sA, aL_sM, BtryOf_0, BtryOf_29, BtryOf_31, BtryOf_49, BtryOf_60, BtryOf_64, BtryOf_65, oi_0, oi_1, oi_123, oi_20, oi_50, oi_9, Pu_emit, Pu_thing]; try dsimp only
          unfold Qv_tryOf
          try dsimp only
          refine Or.inr ⟨rfl, (accY (accY s)), (n - 1), 1, (by repeat (first | exact hR16 | refine SR.i ?_ rfl | refine SR.a ?_ rfl)), (by repeat (first | exact hg16 | refine FgR.i ?_ rfl | refine FgR.a ?_ rfl)), ?_⟩
          rw [st_try' hnn.2.1 hcd, xp_y hc10]
          simp only [frR_i, frR_a, ne_eq, Nat.reduceEqDiff, not_false_eq_true, hf16, hf10, hf9, hf4, hf3, hf2]
          exact (cl_rw9' hn16).symm
  next => exact hP.elim
theorem w_tryOf : UMet 66 (fun _ _ => True) Qw_tryOf := fun A1 σ _ w τ h s n hP => v_tryOf s n A1 σ hP w τ h
