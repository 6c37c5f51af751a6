theorem tt_st {σ : RS} {s : SpC} {n e : Nat} {F : List Int} {T : Int32} (h : SRx e σ s n) (p : frR σ = T.toInt :: F) (q : ¬ (T = 0 ∨ T = 1 ∨ 9 ≤ T)) (q8 : ¬ T = 8) : T.toInt = 2 ∨ T.toInt = 3 ∨ T.toInt = 4 ∨ T.toInt = 5 ∨ T.toInt = 6 ∨ T.toInt = 7 := by
  have w := h.2.2.1.1
  rw [p] at w
  have b := w.1
  have a0 : ¬ T.toInt = 0 := fun z => q (Or.inl (Int32.toInt_inj.mp z))
  have a1 : ¬ T.toInt = 1 := fun z => q (Or.inr (Or.inl (Int32.toInt_inj.mp z)))
  have a8 : ¬ T.toInt = 8 := fun z => q8 (Int32.toInt_inj.mp z)
  have a9 : ¬ 9 ≤ T.toInt := fun z => q (Or.inr (Or.inr (Int32.le_iff_toInt_le.mpr z)))
  omega
def Pv_piece (s : SpC) (n : Nat) (b : Int) : UP1 := fun A1 σ => match A1 with
  | [] => SR σ s n ∧ FgR σ b ∧ 0 < gI σ 62
  | _ => False
def Qv_piece (s : SpC) (n : Nat) (b : Int) : UQ1 := fun A1 σ w τ => match A1 with
  | [] => StQ τ (pcY b (frR σ) n s) w
  | _ => False
def Qw_piece : UQ1 := fun A1 σ w τ => ∀ (s : SpC) (n : Nat) (b : Int), Pv_piece s n b A1 σ → Qv_piece s n b A1 σ w τ
set_option maxRecDepth 100000 in
set_option maxHeartbeats 4000000 in
theorem v_piece (s : SpC) (n : Nat) (b : Int) : UMet 44 (Pv_piece s n b) (Qv_piece s n b) := by
  refine UMet.by Bpiece [(13, (fun _ _ => True), Qw_cant), (67, (fun _ _ => True), Qw_closeRow), (60, (fun _ _ => True), Qw_closeSwitch), (45, (fun _ _ => True), Qw_grouped), (43, (fun _ _ => True), Qw_isRow), (14, (fun _ _ => True), Qw_isSign), (46, (fun _ _ => True), Qw_isTold), (15, (fun _ _ => True), Qw_isWord), (59, (fun _ _ => True), Qw_label), (49, (fun _ _ => True), Qw_statement), (47, (fun _ _ => True), Qw_told)] rfl (ucc w_cant (ucc w_closeRow (ucc w_closeSwitch (ucc w_grouped (ucc w_isRow (ucc w_isSign (ucc w_isTold (ucc w_isWord (ucc w_label (ucc w_statement (ucc w_told uc0))))))))))) ?_
  intro A1 σ hP K hB hW
  unfold Pv_piece at hP
  split at hP
  next =>
    obtain ⟨hR, hg, hop⟩ := hP
    have hnn := hR.2.1
    have ha := SR.a5 hR
    have hFq := frR_pop hop
    have hFt : (frR σ).tail = frR (sI σ 62 (gI σ 62 - 1)) := by rw [hFq]; rfl
    intro n0_
    refine hB _ _ _ _ _ (fun m1 hm1 => ?_)
    dsimp only [ugo, uwp, ust, uct, rfd, Bpiece, Nat.beq, lv_args, rlk, rs1, rs2, rdl, rky, rcd, rno, rsw, Value.category, List.filter, List.take, List.drop, List.reverse, List.reverseAux, List.cons_append, List.nil_append, Option.toList, Int.toNat, Int.reduceToNat, if_pos, if_neg, reduceIte, ↓reduceIte, Nat.reduceAdd, Nat.reduceEqDiff, Nat.reduceBEq, beq_self_eq_true, Bool.not_true, Bool.not_false, Bool.and_true, Bool.and_false, Bool.true_and, Bool.false_and, gI_sI, gI_sL, gI_sA, gI_sM, gL_sI, gL_sL, gL_sA, gL_sM, aI_sI, aI_sL, aI_sA, aI_sM, aL_sI, aL_sL, aL_sA, aL_sM, Bpiece_0, Bpiece_20, Bpiece_29, Bpiece_35, Bpiece_42, Bpiece_49, Bpiece_53, Bpiece_54, Bpiece_60, Bpiece_69, Bpiece_74, Bpiece_83, Bpiece_92, Bpiece_97, Bpiece_104, Bpiece_109, Bpiece_116, Bpiece_123, Bpiece_127, Bpiece_128, oi_1, oi_12, oi_125, oi_13, oi_8]; try dsimp only
    intro p2
    refine ⟨trivial, fun w3 τ3 hq3 => ?_⟩
    obtain ⟨rfl, hb3⟩ := hq3 trivial
    rcases hb3 with ⟨rfl, hc3⟩ | ⟨rfl, hc3⟩
    · dsimp only [Option.toList, List.cons_append, List.nil_append, Nat.beq, gI_sI, gI_sL, gI_sA, gI_sM, gL_sI, gL_sL, gL_sA, gL_sM, aI_sI, aI_sL, aI_sA, aI_sM, aL_sI, aL_sL, aL_sA, aL_sM]
      refine ⟨fun h4 => absurd h4 (by decide), fun h4 => ?_⟩
      clear h4
      refine hB _ _ _ _ _ (fun m5 hm5 => ?_)
      dsimp only [ugo, uwp, ust, uct, rfd, Bpiece, Nat.beq, lv_args, rlk, rs1, rs2, rdl, rky, rcd, rno, rsw, Value.category, List.filter, List.take, List.drop, List.reverse, List.reverseAux, List.cons_append, List.nil_append, Option.toList, Int.toNat, Int.reduceToNat, if_pos, if_neg, reduceIte, ↓reduceIte, Nat.reduceAdd, Nat.reduceEqDiff, Nat.reduceBEq, beq_self_eq_true, Bool.not_true, Bool.not_false, Bool.and_true, Bool.and_false, Bool.true_and, Bool.false_and, gI_sI, gI_sL, gI_sA, gI_sM, gL_sI, gL_sL, gL_sA, gL_sM, aI_sI, aI_sL, aI_sA, aI_sM, aL_sI, aL_sL, aL_sA, aL_sM, Bpiece_0, Bpiece_20, Bpiece_29, Bpiece_35, Bpiece_42, Bpiece_49, Bpiece_53, Bpiece_54, Bpiece_60, Bpiece_69, Bpiece_74, Bpiece_83, Bpiece_92, Bpiece_97, Bpiece_104, Bpiece_109, Bpiece_116, Bpiece_123, Bpiece_127, Bpiece_128, oi_1, oi_12, oi_125, oi_13, oi_8]; try dsimp only
      have hcr := hc3
      have hg0 : FgR σ 0 := Fg_not hop rfl (by lia)
      refine ⟨trivial, fun w6 τ6 hq6 => ?_⟩
      obtain ⟨rfl, b6, rfl, hb6⟩ := hq6 trivial
      have he6 := (XrR.s (SR.x (e_ := 0) (by repeat (first | exact hR | refine SR.i ?_ rfl | refine SR.a ?_ rfl)))).sg (x := 125) (d := 3) (by decide)
      rcases hb6 with ⟨rfl, hk6⟩ | ⟨rfl, hk6⟩
      · dsimp only [Option.toList, List.cons_append, List.nil_append, Nat.beq, gI_sI, gI_sL, gI_sA, gI_sM, gL_sI, gL_sL, gL_sA, gL_sM, aI_sI, aI_sL, aI_sA, aI_sM, aL_sI, aL_sL, aL_sA, aL_sM]
        have hc6 : codY s = 3 := he6.mp hk6
        refine ⟨fun h7 => absurd h7 (by decide), fun h7 => ?_⟩
        clear h7
        refine hB _ _ _ _ _ (fun m8 hm8 => ?_)
        dsimp only [ugo, uwp, ust, uct, rfd, Bpiece, Nat.beq, lv_args, rlk, rs1, rs2, rdl, rky, rcd, rno, rsw, Value.category, List.filter, List.take, List.drop, List.reverse, List.reverseAux, List.cons_append, List.nil_append, Option.toList, Int.toNat, Int.reduceToNat, if_pos, if_neg, reduceIte, ↓reduceIte, Nat.reduceAdd, Nat.reduceEqDiff, Nat.reduceBEq, beq_self_eq_true, Bool.not_true, Bool.not_false, Bool.and_true, Bool.and_false, Bool.true_and, Bool.false_and, gI_sI, gI_sL, gI_sA, gI_sM, gL_sI, gL_sL, gL_sA, gL_sM, aI_sI, aI_sL, aI_sA, aI_sM, aL_sI, aL_sL, aL_sA, aL_sM, Bpiece_0, Bpiece_20, Bpiece_29, Bpiece_35, Bpiece_42, Bpiece_49, Bpiece_53, Bpiece_54, Bpiece_60, Bpiece_69, Bpiece_74, Bpiece_83, Bpiece_92, Bpiece_97, Bpiece_104, Bpiece_109, Bpiece_116, Bpiece_123, Bpiece_127, Bpiece_128, oi_1, oi_12, oi_125, oi_13, oi_8]; try dsimp only
        refine ⟨trivial, fun w9 τ9 hq9 => ?_⟩
        have hq9 : StQ τ9 _ w9 := hq9 s n ⟨(by repeat (first | exact hR | refine SR.i ?_ rfl | refine SR.a ?_ rfl)), hop, rfl, (by have := tt_in hR hFq; rcases hcr with q | q | q <;> lia), by omega⟩
        have hv9 : w9 = some (.int 0) ∨ w9 = some (.int 1) := hq9.imp (fun q => q.1) (fun q => q.1)
        rcases hv9 with rfl | rfl
        · dsimp only [Option.toList, List.cons_append, List.nil_append, Nat.beq, gI_sI, gI_sL, gI_sA, gI_sM, gL_sI, gL_sL, gL_sA, gL_sM, aI_sI, aI_sL, aI_sA, aI_sM, aL_sI, aL_sL, aL_sA, aL_sM]
          unfold Qv_piece
          try dsimp only
          rw [hFq, pc_close (rwk_in hR hFq (Or.inl hcr)) (by assumption)]
          have hq_ := hq9
          rw [hFt] at hq_
          exact hq_
        · dsimp only [Option.toList, List.cons_append, List.nil_append, Nat.beq, gI_sI, gI_sL, gI_sA, gI_sM, gL_sI, gL_sL, gL_sA, gL_sM, aI_sI, aI_sL, aI_sA, aI_sM, aL_sI, aL_sL, aL_sA, aL_sM]
          unfold Qv_piece
          try dsimp only
          rw [hFq, pc_close (rwk_in hR hFq (Or.inl hcr)) (by assumption)]
          have hq_ := hq9
          rw [hFt] at hq_
          exact hq_
      · dsimp only [Option.toList, List.cons_append, List.nil_append, Nat.beq, gI_sI, gI_sL, gI_sA, gI_sM, gL_sI, gL_sL, gL_sA, gL_sM, aI_sI, aI_sL, aI_sA, aI_sM, aL_sI, aL_sL, aL_sA, aL_sM]
        have hc6 : ¬ codY s = 3 := fun q => hk6 (he6.mpr q)
        refine ⟨fun h10 => ?_, fun h10 => absurd h10 (by decide)⟩
        clear h10
        refine hB _ _ _ _ _ (fun m11 hm11 => ?_)
        dsimp only [ugo, uwp, ust, uct, rfd, Bpiece, Nat.beq, lv_args, rlk, rs1, rs2, rdl, rky, rcd, rno, rsw, Value.category, List.filter, List.take, List.drop, List.reverse, List.reverseAux, List.cons_append, List.nil_append, Option.toList, Int.toNat, Int.reduceToNat, if_pos, if_neg, reduceIte, ↓reduceIte, Nat.reduceAdd, Nat.reduceEqDiff, Nat.reduceBEq, beq_self_eq_true, Bool.not_true, Bool.not_false, Bool.and_true, Bool.and_false, Bool.true_and, Bool.false_and, gI_sI, gI_sL, gI_sA, gI_sM, gL_sI, gL_sL, gL_sA, gL_sM, aI_sI, aI_sL, aI_sA, aI_sM, aL_sI, aL_sL, aL_sA, aL_sM, Bpiece_0, Bpiece_20, Bpiece_29, Bpiece_35, Bpiece_42, Bpiece_49, Bpiece_53, Bpiece_54, Bpiece_60, Bpiece_69, Bpiece_74, Bpiece_83, Bpiece_92, Bpiece_97, Bpiece_104, Bpiece_109, Bpiece_116, Bpiece_123, Bpiece_127, Bpiece_128, oi_1, oi_12, oi_125, oi_13, oi_8]; try dsimp only
        refine ⟨trivial, fun w12 τ12 hq12 => ?_⟩
        have hq12 := hq12 _ s n (SR.x (e_ := 0) (by repeat (first | exact hR | refine SR.i ?_ rfl | refine SR.a ?_ rfl)))
        obtain ⟨rfl, hb12⟩ := hq12
        rcases hb12 with ⟨rfl, hc12⟩ | ⟨rfl, hc12⟩
        · dsimp only [Option.toList, List.cons_append, List.nil_append, Nat.beq, gI_sI, gI_sL, gI_sA, gI_sM, gL_sI, gL_sL, gL_sA, gL_sM, aI_sI, aI_sL, aI_sA, aI_sM, aL_sI, aL_sL, aL_sA, aL_sM]
          refine ⟨fun h13 => absurd h13 (by decide), fun h13 => ?_⟩
          clear h13
          refine hB _ _ _ _ _ (fun m14 hm14 => ?_)
          dsimp only [ugo, uwp, ust, uct, rfd, Bpiece, Nat.beq, lv_args, rlk, rs1, rs2, rdl, rky, rcd, rno, rsw, Value.category, List.filter, List.take, List.drop, List.reverse, List.reverseAux, List.cons_append, List.nil_append, Option.toList, Int.toNat, Int.reduceToNat, if_pos, if_neg, reduceIte, ↓reduceIte, Nat.reduceAdd, Nat.reduceEqDiff, Nat.reduceBEq, beq_self_eq_true, Bool.not_true, Bool.not_false, Bool.and_true, Bool.and_false, Bool.true_and, Bool.false_and, gI_sI, gI_sL, gI_sA, gI_sM, gL_sI, gL_sL, gL_sA, gL_sM, aI_sI, aI_sL, aI_sA, aI_sM, aL_sI, aL_sL, aL_sA, aL_sM, Bpiece_0, Bpiece_20, Bpiece_29, Bpiece_35, Bpiece_42, Bpiece_49, Bpiece_53, Bpiece_54, Bpiece_60, Bpiece_69, Bpiece_74, Bpiece_83, Bpiece_92, Bpiece_97, Bpiece_104, Bpiece_109, Bpiece_116, Bpiece_123, Bpiece_127, Bpiece_128, oi_1, oi_12, oi_125, oi_13, oi_8]; try dsimp only
          refine ⟨trivial, fun w15 τ15 hq15 => ?_⟩
          have hq15 := hq15 s n ⟨(by repeat (first | exact hR | refine SR.i ?_ rfl | refine SR.a ?_ rfl)), (by repeat (first | exact hg0 | refine FgR.i ?_ rfl | refine FgR.a ?_ rfl)), (by rw [hFq]; exact List.cons_ne_nil _ _)⟩
          rcases hq15 with ⟨rfl, hF15⟩ | ⟨rfl, hR15, hg15, hf15, h49_15⟩
          · dsimp only [Option.toList, List.cons_append, List.nil_append, Nat.beq, gI_sI, gI_sL, gI_sA, gI_sM, gL_sI, gL_sL, gL_sA, gL_sM, aI_sI, aI_sL, aI_sA, aI_sM, aL_sI, aL_sL, aL_sA, aL_sM]
            refine hB _ _ _ _ _ (fun m16 hm16 => ?_)
            dsimp only [ugo, uwp, ust, uct, rfd, Bpiece, Nat.beq, lv_args, rlk, rs1, rs2, rdl, rky, rcd, rno, rsw, Value.category, List.filter, List.take, List.drop, List.reverse, List.reverseAux, List.cons_append, List.nil_append, Option.toList, Int.toNat, Int.reduceToNat, if_pos, if_neg, reduceIte, ↓reduceIte, Nat.reduceAdd, Nat.reduceEqDiff, Nat.reduceBEq, beq_self_eq_true, Bool.not_true, Bool.not_false, Bool.and_true, Bool.and_false, Bool.true_and, Bool.false_and, gI_sI, gI_sL, gI_sA, gI_sM, gL_sI, gL_sL, gL_sA, gL_sM, aI_sI, aI_sL, aI_sA, aI_sM, aL_sI, aL_sL, aL_sA, aL_sM, Bpiece_0, Bpiece_20, Bpiece_29, Bpiece_35, Bpiece_42, Bpiece_49, Bpiece_53, Bpiece_54, Bpiece_60, Bpiece_69, Bpiece_74, Bpiece_83, Bpiece_92, Bpiece_97, Bpiece_104, Bpiece_109, Bpiece_116, Bpiece_123, Bpiece_127, Bpiece_128, oi_1, oi_12, oi_125, oi_13, oi_8]; try dsimp only
            unfold Qv_piece
            try dsimp only
            rw [hFq, pc_tol (rwk_in hR hFq (by first | exact Or.inl hcr | exact Or.inr (by lia))) ha.1 ha.2 (SR.z hR) (fun q => absurd q (by intro q; have q : _ = (8 : Int32).toInt := q; have := Int32.toInt_inj.mp q; lia)) (by assumption)]
            refine StQ.f hF15 ?_
            exact (by repeat (first | with_reducible exact GpY.rf | with_reducible refine GpY.tr ?_ (gd_fo _) | with_reducible refine GpY.tr ?_ (gd_ef _) | with_reducible refine GpY.tr ?_ (gd_cf _) | with_reducible refine GpY.tr ?_ (gd_wt _) | with_reducible refine GpY.tr ?_ (gd_xp _) | with_reducible refine GpY.tr ?_ (gd_acc _) | with_reducible refine GpY.tr ?_ (gd_rai _) | with_reducible refine GpY.tr ?_ (gd_e _) | with_reducible refine GpY.tr ?_ (gd_o _) | with_reducible refine GpY.tr ?_ (gd_c _) | with_reducible refine GpY.tr ?_ (gd_op _) | with_reducible refine GpY.tr ?_ (gd_clp gd_e _ _) | with_reducible refine GpY.tr ?_ (gd_tl _) | with_reducible refine GpY.tr ?_ (gd_sf _ _ _) | with_reducible refine GpY.tr ?_ (gd_cl _) | with_reducible refine GpY.tr ?_ (gd_pc _) | with_reducible refine GpY.tr ?_ (gd_st _) | with_reducible refine GpY.tr ?_ (gd_rw _) | with_reducible refine GpY.tr ?_ (gd_typ _) | with_reducible refine GpY.tr ?_ (gd_dcl _) | with_reducible refine GpY.tr ?_ (gd_va2 _) | with_reducible refine GpY.tr ?_ (gd_cnd _) | with_reducible refine GpY.tr ?_ (gd_tr1 _) | with_reducible refine GpY.tr ?_ (gd_tr2 (fun _ => gd_rw) _) | with_reducible refine GpY.tr ?_ (gd_tr3 (fun _ => gd_rw) _) | with_reducible refine GpY.tr ?_ (gd_fo1 _) | with_reducible refine GpY.tr ?_ (gd_fo2 _) | with_reducible refine GpY.tr ?_ (gd_fo3 _) | with_reducible refine GpY.tr ?_ (gd_fex _) | with_reducible refine GpY.tr ?_ (pg_var.1) | with_reducible refine GpY.tr ?_ (pg_cas.1) | exact GpY.rf))
          · dsimp only [Option.toList, List.cons_append, List.nil_append, Nat.beq, gI_sI, gI_sL, gI_sA, gI_sM, gL_sI, gL_sL, gL_sA, gL_sM, aI_sI, aI_sL, aI_sA, aI_sM, aL_sI, aL_sL, aL_sA, aL_sM]
            refine hB _ _ _ _ _ (fun m17 hm17 => ?_)
            dsimp only [ugo, uwp, ust, uct, rfd, Bpiece, Nat.beq, lv_args, rlk, rs1, rs2, rdl, rky, rcd, rno, rsw, Value.category, List.filter, List.take, List.drop, List.reverse, List.reverseAux, List.cons_append, List.nil_append, Option.toList, Int.toNat, Int.reduceToNat, if_pos, if_neg, reduceIte, ↓reduceIte, Nat.reduceAdd, Nat.reduceEqDiff, Nat.reduceBEq, beq_self_eq_true, Bool.not_true, Bool.not_false, Bool.and_true, Bool.and_false, Bool.true_and, Bool.false_and, gI_sI, gI_sL, gI_sA, gI_sM, gL_sI, gL_sL, gL_sA, gL_sM, aI_sI, aI_sL, aI_sA, aI_sM, aL_sI, aL_sL, aL_sA, aL_sM, Bpiece_0, Bpiece_20, Bpiece_29, Bpiece_35, Bpiece_42, Bpiece_49, Bpiece_53, Bpiece_54, Bpiece_60, Bpiece_69, Bpiece_74, Bpiece_83, Bpiece_92, Bpiece_97, Bpiece_104, Bpiece_109, Bpiece_116, Bpiece_123, Bpiece_127, Bpiece_128, oi_1, oi_12, oi_125, oi_13, oi_8]; try dsimp only
            unfold Qv_piece
            try dsimp only
            refine Or.inr ⟨rfl, (xpY 4 (varY n s)), n, 0, (by repeat (first | exact hR15 | refine SR.i ?_ rfl | refine SR.a ?_ rfl)), (by repeat (first | exact hg15 | refine FgR.i ?_ rfl | refine FgR.a ?_ rfl)), ?_⟩
            rw [hFq, pc_tol (rwk_in hR hFq (by first | exact Or.inl hcr | exact Or.inr (by lia))) ha.1 ha.2 (SR.z hR) (fun q => absurd q (by intro q; have q : _ = (8 : Int32).toInt := q; have := Int32.toInt_inj.mp q; lia)) (by assumption)]
            rw [hf15, hFq]
        · dsimp only [Option.toList, List.cons_append, List.nil_append, Nat.beq, gI_sI, gI_sL, gI_sA, gI_sM, gL_sI, gL_sL, gL_sA, gL_sM, aI_sI, aI_sL, aI_sA, aI_sM, aL_sI, aL_sL, aL_sA, aL_sM]
          refine ⟨fun h18 => ?_, fun h18 => absurd h18 (by decide)⟩
          clear h18
          refine hB _ _ _ _ _ (fun m19 hm19 => ?_)
          dsimp only [ugo, uwp, ust, uct, rfd, Bpiece, Nat.beq, lv_args, rlk, rs1, rs2, rdl, rky, rcd, rno, rsw, Value.category, List.filter, List.take, List.drop, List.reverse, List.reverseAux, List.cons_append, List.nil_append, Option.toList, Int.toNat, Int.reduceToNat, if_pos, if_neg, reduceIte, ↓reduceIte, Nat.reduceAdd, Nat.reduceEqDiff, Nat.reduceBEq, beq_self_eq_true, Bool.not_true, Bool.not_false, Bool.and_true, Bool.and_false, Bool.true_and, Bool.false_and, gI_sI, gI_sL, gI_sA, gI_sM, gL_sI, gL_sL, gL_sA, gL_sM, aI_sI, aI_sL, aI_sA, aI_sM, aL_sI, aL_sL, aL_sA, aL_sM, Bpiece_0, Bpiece_20, Bpiece_29, Bpiece_35, Bpiece_42, Bpiece_49, Bpiece_53, Bpiece_54, Bpiece_60, Bpiece_69, Bpiece_74, Bpiece_83, Bpiece_92, Bpiece_97, Bpiece_104, Bpiece_109, Bpiece_116, Bpiece_123, Bpiece_127, Bpiece_128, oi_1, oi_12, oi_125, oi_13, oi_8]; try dsimp only
          refine ⟨trivial, fun w20 τ20 hq20 => ?_⟩
          have hq20 : StQ τ20 _ w20 := hq20 s n ⟨(by repeat (first | exact hR | refine SR.i ?_ rfl | refine SR.a ?_ rfl)), (by repeat (first | exact hg0 | refine FgR.i ?_ rfl | refine FgR.a ?_ rfl)), (by rw [hFq]; exact List.cons_ne_nil _ _)⟩
          have hv20 : w20 = some (.int 0) ∨ w20 = some (.int 1) := hq20.imp (fun q => q.1) (fun q => q.1)
          rcases hv20 with rfl | rfl
          · dsimp only [Option.toList, List.cons_append, List.nil_append, Nat.beq, gI_sI, gI_sL, gI_sA, gI_sM, gL_sI, gL_sL, gL_sA, gL_sM, aI_sI, aI_sL, aI_sA, aI_sM, aL_sI, aL_sL, aL_sA, aL_sM]
            refine hB _ _ _ _ _ (fun m21 hm21 => ?_)
            dsimp only [ugo, uwp, ust, uct, rfd, Bpiece, Nat.beq, lv_args, rlk, rs1, rs2, rdl, rky, rcd, rno, rsw, Value.category, List.filter, List.take, List.drop, List.reverse, List.reverseAux, List.cons_append, List.nil_append, Option.toList, Int.toNat, Int.reduceToNat, if_pos, if_neg, reduceIte, ↓reduceIte, Nat.reduceAdd, Nat.reduceEqDiff, Nat.reduceBEq, beq_self_eq_true, Bool.not_true, Bool.not_false, Bool.and_true, Bool.and_false, Bool.true_and, Bool.false_and, gI_sI, gI_sL, gI_sA, gI_sM, gL_sI, gL_sL, gL_sA, gL_sM, aI_sI, aI_sL, aI_sA, aI_sM, aL_sI, aL_sL, aL_sA, aL_sM, Bpiece_0, Bpiece_20, Bpiece_29, Bpiece_35, Bpiece_42, Bpiece_49, Bpiece_53, Bpiece_54, Bpiece_60, Bpiece_69, Bpiece_74, Bpiece_83, Bpiece_92, Bpiece_97, Bpiece_104, Bpiece_109, Bpiece_116, Bpiece_123, Bpiece_127, Bpiece_128, oi_1, oi_12, oi_125, oi_13, oi_8]; try dsimp only
            unfold Qv_piece
            try dsimp only
            rw [hFq, pc_sta (rwk_in hR hFq (by first | exact Or.inl hcr | exact Or.inr (by lia))) ha.1 ha.2 (SR.z hR) (fun q => absurd q (by intro q; have q : _ = (8 : Int32).toInt := q; have := Int32.toInt_inj.mp q; lia)) (by assumption) (by assumption)]
            have hq_ := hq20
            rw [hFq] at hq_
            exact hq_
          · dsimp only [Option.toList, List.cons_append, List.nil_append, Nat.beq, gI_sI, gI_sL, gI_sA, gI_sM, gL_sI, gL_sL, gL_sA, gL_sM, aI_sI, aI_sL, aI_sA, aI_sM, aL_sI, aL_sL, aL_sA, aL_sM]
            refine hB _ _ _ _ _ (fun m22 hm22 => ?_)
            dsimp only [ugo, uwp, ust, uct, rfd, Bpiece, Nat.beq, lv_args, rlk, rs1, rs2, rdl, rky, rcd, rno, rsw, Value.category, List.filter, List.take, List.drop, List.reverse, List.reverseAux, List.cons_append, List.nil_append, Option.toList, Int.toNat, Int.reduceToNat, if_pos, if_neg, reduceIte, ↓reduceIte, Nat.reduceAdd, Nat.reduceEqDiff, Nat.reduceBEq, beq_self_eq_true, Bool.not_true, Bool.not_false, Bool.and_true, Bool.and_false, Bool.true_and, Bool.false_and, gI_sI, gI_sL, gI_sA, gI_sM, gL_sI, gL_sL, gL_sA, gL_sM, aI_sI, aI_sL, aI_sA, aI_sM, aL_sI, aL_sL, aL_sA, aL_sM, Bpiece_0, Bpiece_20, Bpiece_29, Bpiece_35, Bpiece_42, Bpiece_49, Bpiece_53, Bpiece_54, Bpiece_60, Bpiece_69, Bpiece_74, Bpiece_83, Bpiece_92, Bpiece_97, Bpiece_104, Bpiece_109, Bpiece_116, Bpiece_123, Bpiece_127, Bpiece_128, oi_1, oi_12, oi_125, oi_13, oi_8]; try dsimp only
            unfold Qv_piece
            try dsimp only
            rw [hFq, pc_sta (rwk_in hR hFq (by first | exact Or.inl hcr | exact Or.inr (by lia))) ha.1 ha.2 (SR.z hR) (fun q => absurd q (by intro q; have q : _ = (8 : Int32).toInt := q; have := Int32.toInt_inj.mp q; lia)) (by assumption) (by assumption)]
            have hq_ := hq20
            rw [hFq] at hq_
            exact hq_
    · dsimp only [Option.toList, List.cons_append, List.nil_append, Nat.beq, gI_sI, gI_sL, gI_sA, gI_sM, gL_sI, gL_sL, gL_sA, gL_sM, aI_sI, aI_sL, aI_sA, aI_sM, aL_sI, aL_sL, aL_sA, aL_sM]
      refine ⟨fun h23 => ?_, fun h23 => absurd h23 (by decide)⟩
      clear h23
      refine hB _ _ _ _ _ (fun m24 hm24 => ?_)
      dsimp only [ugo, uwp, ust, uct, rfd, Bpiece, Nat.beq, lv_args, rlk, rs1, rs2, rdl, rky, rcd, rno, rsw, Value.category, List.filter, List.take, List.drop, List.reverse, List.reverseAux, List.cons_append, List.nil_append, Option.toList, Int.toNat, Int.reduceToNat, if_pos, if_neg, reduceIte, ↓reduceIte, Nat.reduceAdd, Nat.reduceEqDiff, Nat.reduceBEq, beq_self_eq_true, Bool.not_true, Bool.not_false, Bool.and_true, Bool.and_false, Bool.true_and, Bool.false_and, gI_sI, gI_sL, gI_sA, gI_sM, gL_sI, gL_sL, gL_sA, gL_sM, aI_sI, aI_sL, aI_sA, aI_sM, aL_sI, aL_sL, aL_sA, aL_sM, Bpiece_0, Bpiece_20, Bpiece_29, Bpiece_35, Bpiece_42, Bpiece_49, Bpiece_53, Bpiece_54, Bpiece_60, Bpiece_69, Bpiece_74, Bpiece_83, Bpiece_92, Bpiece_97, Bpiece_104, Bpiece_109, Bpiece_116, Bpiece_123, Bpiece_127, Bpiece_128, oi_1, oi_12, oi_125, oi_13, oi_8]; try dsimp only
      refine ⟨fun h25 => ?_, fun h25 => ?_⟩
      · refine hB _ _ _ _ _ (fun m26 hm26 => ?_)
        dsimp only [ugo, uwp, ust, uct, rfd, Bpiece, Nat.beq, lv_args, rlk, rs1, rs2, rdl, rky, rcd, rno, rsw, Value.category, List.filter, List.take, List.drop, List.reverse, List.reverseAux, List.cons_append, List.nil_append, Option.toList, Int.toNat, Int.reduceToNat, if_pos, if_neg, reduceIte, ↓reduceIte, Nat.reduceAdd, Nat.reduceEqDiff, Nat.reduceBEq, beq_self_eq_true, Bool.not_true, Bool.not_false, Bool.and_true, Bool.and_false, Bool.true_and, Bool.false_and, gI_sI, gI_sL, gI_sA, gI_sM, gL_sI, gL_sL, gL_sA, gL_sM, aI_sI, aI_sL, aI_sA, aI_sM, aL_sI, aL_sL, aL_sA, aL_sM, Bpiece_0, Bpiece_20, Bpiece_29, Bpiece_35, Bpiece_42, Bpiece_49, Bpiece_53, Bpiece_54, Bpiece_60, Bpiece_69, Bpiece_74, Bpiece_83, Bpiece_92, Bpiece_97, Bpiece_104, Bpiece_109, Bpiece_116, Bpiece_123, Bpiece_127, Bpiece_128, oi_1, oi_12, oi_125, oi_13, oi_8]; try dsimp only
        have hcr := hc3
        have hg0 : FgR σ 0 := Fg_not hop rfl (by lia)
        refine ⟨trivial, fun w27 τ27 hq27 => ?_⟩
        have hq27 : StQ τ27 _ w27 := hq27 s n ⟨(by repeat (first | exact hR | refine SR.i ?_ rfl | refine SR.a ?_ rfl)), (by repeat (first | exact hg0 | refine FgR.i ?_ rfl | refine FgR.a ?_ rfl)), (by rw [hFq]; exact List.cons_ne_nil _ _)⟩
        have hv27 : w27 = some (.int 0) ∨ w27 = some (.int 1) := hq27.imp (fun q => q.1) (fun q => q.1)
        rcases hv27 with rfl | rfl
        · dsimp only [Option.toList, List.cons_append, List.nil_append, Nat.beq, gI_sI, gI_sL, gI_sA, gI_sM, gL_sI, gL_sL, gL_sA, gL_sM, aI_sI, aI_sL, aI_sA, aI_sM, aL_sI, aL_sL, aL_sA, aL_sM]
          unfold Qv_piece
          try dsimp only
          rw [hFq, pc_st (s := s) (tt_st hR hFq hcr (by lia))]
          have hq_ := hq27
          rw [hFq] at hq_
          exact hq_
        · dsimp only [Option.toList, List.cons_append, List.nil_append, Nat.beq, gI_sI, gI_sL, gI_sA, gI_sM, gL_sI, gL_sL, gL_sA, gL_sM, aI_sI, aI_sL, aI_sA, aI_sM, aL_sI, aL_sL, aL_sA, aL_sM]
          unfold Qv_piece
          try dsimp only
          rw [hFq, pc_st (s := s) (tt_st hR hFq hcr (by lia))]
          have hq_ := hq27
          rw [hFq] at hq_
          exact hq_
      · refine hB _ _ _ _ _ (fun m28 hm28 => ?_)
        dsimp only [ugo, uwp, ust, uct, rfd, Bpiece, Nat.beq, lv_args, rlk, rs1, rs2, rdl, rky, rcd, rno, rsw, Value.category, List.filter, List.take, List.drop, List.reverse, List.reverseAux, List.cons_append, List.nil_append, Option.toList, Int.toNat, Int.reduceToNat, if_pos, if_neg, reduceIte, ↓reduceIte, Nat.reduceAdd, Nat.reduceEqDiff, Nat.reduceBEq, beq_self_eq_true, Bool.not_true, Bool.not_false, Bool.and_true, Bool.and_false, Bool.true_and, Bool.false_and, gI_sI, gI_sL, gI_sA, gI_sM, gL_sI, gL_sL, gL_sA, gL_sM, aI_sI, aI_sL, aI_sA, aI_sM, aL_sI, aL_sL, aL_sA, aL_sM, Bpiece_0, Bpiece_20, Bpiece_29, Bpiece_35, Bpiece_42, Bpiece_49, Bpiece_53, Bpiece_54, Bpiece_60, Bpiece_69, Bpiece_74, Bpiece_83, Bpiece_92, Bpiece_97, Bpiece_104, Bpiece_109, Bpiece_116, Bpiece_123, Bpiece_127, Bpiece_128, oi_1, oi_12, oi_125, oi_13, oi_8]; try dsimp only
        have hT8 : (aI σ 63 (gI σ 62 - 1).toNatClampNeg) = 8 := by lia
        refine ⟨trivial, fun w29 τ29 hq29 => ?_⟩
        obtain ⟨rfl, b29, rfl, hb29⟩ := hq29 trivial
        have he29 := (XrR.s (SR.x (e_ := 0) (by repeat (first | exact hR | refine SR.i ?_ rfl | refine SR.a ?_ rfl)))).sg (x := 125) (d := 3) (by decide)
        rcases hb29 with ⟨rfl, hk29⟩ | ⟨rfl, hk29⟩
        · dsimp only [Option.toList, List.cons_append, List.nil_append, Nat.beq, gI_sI, gI_sL, gI_sA, gI_sM, gL_sI, gL_sL, gL_sA, gL_sM, aI_sI, aI_sL, aI_sA, aI_sM, aL_sI, aL_sL, aL_sA, aL_sM]
          have hc29 : codY s = 3 := he29.mp hk29
          refine ⟨fun h30 => absurd h30 (by decide), fun h30 => ?_⟩
          clear h30
          refine hB _ _ _ _ _ (fun m31 hm31 => ?_)
          dsimp only [ugo, uwp, ust, uct, rfd, Bpiece, Nat.beq, lv_args, rlk, rs1, rs2, rdl, rky, rcd, rno, rsw, Value.category, List.filter, List.take, List.drop, List.reverse, List.reverseAux, List.cons_append, List.nil_append, Option.toList, Int.toNat, Int.reduceToNat, if_pos, if_neg, reduceIte, ↓reduceIte, Nat.reduceAdd, Nat.reduceEqDiff, Nat.reduceBEq, beq_self_eq_true, Bool.not_true, Bool.not_false, Bool.and_true, Bool.and_false, Bool.true_and, Bool.false_and, gI_sI, gI_sL, gI_sA, gI_sM, gL_sI, gL_sL, gL_sA, gL_sM, aI_sI, aI_sL, aI_sA, aI_sM, aL_sI, aL_sL, aL_sA, aL_sM, Bpiece_0, Bpiece_20, Bpiece_29, Bpiece_35, Bpiece_42, Bpiece_49, Bpiece_53, Bpiece_54, Bpiece_60, Bpiece_69, Bpiece_74, Bpiece_83, Bpiece_92, Bpiece_97, Bpiece_104, Bpiece_109, Bpiece_116, Bpiece_123, Bpiece_127, Bpiece_128, oi_1, oi_12, oi_125, oi_13, oi_8]; try dsimp only
          refine ⟨trivial, fun w32 τ32 hq32 => ?_⟩
          have hq32 : StQ τ32 _ w32 := hq32 s n ⟨(by repeat (first | exact hR | refine SR.i ?_ rfl | refine SR.a ?_ rfl)), hop, by omega⟩
          have hv32 : w32 = some (.int 0) ∨ w32 = some (.int 1) := hq32.imp (fun q => q.1) (fun q => q.1)
          rcases hv32 with rfl | rfl
          · dsimp only [Option.toList, List.cons_append, List.nil_append, Nat.beq, gI_sI, gI_sL, gI_sA, gI_sM, gL_sI, gL_sL, gL_sA, gL_sM, aI_sI, aI_sL, aI_sA, aI_sM, aL_sI, aL_sL, aL_sA, aL_sM]
            unfold Qv_piece
            try dsimp only
            rw [hFq, pc_close (rwk_in hR hFq (Or.inr (by lia))) (by assumption), cl_xp (by rw [hT8]; decide) (by assumption)]
            have hq_ := hq32
            rw [hFt] at hq_
            exact hq_
          · dsimp only [Option.toList, List.cons_append, List.nil_append, Nat.beq, gI_sI, gI_sL, gI_sA, gI_sM, gL_sI, gL_sL, gL_sA, gL_sM, aI_sI, aI_sL, aI_sA, aI_sM, aL_sI, aL_sL, aL_sA, aL_sM]
            unfold Qv_piece
            try dsimp only
            rw [hFq, pc_close (rwk_in hR hFq (Or.inr (by lia))) (by assumption), cl_xp (by rw [hT8]; decide) (by assumption)]
            have hq_ := hq32
            rw [hFt] at hq_
            exact hq_
        · dsimp only [Option.toList, List.cons_append, List.nil_append, Nat.beq, gI_sI, gI_sL, gI_sA, gI_sM, gL_sI, gL_sL, gL_sA, gL_sM, aI_sI, aI_sL, aI_sA, aI_sM, aL_sI, aL_sL, aL_sA, aL_sM]
          have hc29 : ¬ codY s = 3 := fun q => hk29 (he29.mpr q)
          refine ⟨fun h33 => ?_, fun h33 => absurd h33 (by decide)⟩
          clear h33
          refine hB _ _ _ _ _ (fun m34 hm34 => ?_)
          dsimp only [ugo, uwp, ust, uct, rfd, Bpiece, Nat.beq, lv_args, rlk, rs1, rs2, rdl, rky, rcd, rno, rsw, Value.category, List.filter, List.take, List.drop, List.reverse, List.reverseAux, List.cons_append, List.nil_append, Option.toList, Int.toNat, Int.reduceToNat, if_pos, if_neg, reduceIte, ↓reduceIte, Nat.reduceAdd, Nat.reduceEqDiff, Nat.reduceBEq, beq_self_eq_true, Bool.not_true, Bool.not_false, Bool.and_true, Bool.and_false, Bool.true_and, Bool.false_and, gI_sI, gI_sL, gI_sA, gI_sM, gL_sI, gL_sL, gL_sA, gL_sM, aI_sI, aI_sL, aI_sA, aI_sM, aL_sI, aL_sL, aL_sA, aL_sM, Bpiece_0, Bpiece_20, Bpiece_29, Bpiece_35, Bpiece_42, Bpiece_49, Bpiece_53, Bpiece_54, Bpiece_60, Bpiece_69, Bpiece_74, Bpiece_83, Bpiece_92, Bpiece_97, Bpiece_104, Bpiece_109, Bpiece_116, Bpiece_123, Bpiece_127, Bpiece_128, oi_1, oi_12, oi_125, oi_13, oi_8]; try dsimp only
          refine ⟨trivial, fun w35 τ35 hq35 => ?_⟩
          obtain ⟨rfl, b35, rfl, hb35⟩ := hq35 trivial
          have he35 := (XrR.s (SR.x (e_ := 0) (by repeat (first | exact hR | refine SR.i ?_ rfl | refine SR.a ?_ rfl)))).wd (x := 12) (by decide)
          rcases hb35 with ⟨rfl, hk35⟩ | ⟨rfl, hk35⟩
          · dsimp only [Option.toList, List.cons_append, List.nil_append, Nat.beq, gI_sI, gI_sL, gI_sA, gI_sM, gL_sI, gL_sL, gL_sA, gL_sM, aI_sI, aI_sL, aI_sA, aI_sM, aL_sI, aL_sL, aL_sA, aL_sM]
            have hc35 : codY s = 62 := he35.mp hk35
            refine ⟨fun h36 => ?_, fun h36 => absurd h36 (by decide)⟩
            clear h36
            refine hB _ _ _ _ _ (fun m37 hm37 => ?_)
            dsimp only [ugo, uwp, ust, uct, rfd, Bpiece, Nat.beq, lv_args, rlk, rs1, rs2, rdl, rky, rcd, rno, rsw, Value.category, List.filter, List.take, List.drop, List.reverse, List.reverseAux, List.cons_append, List.nil_append, Option.toList, Int.toNat, Int.reduceToNat, if_pos, if_neg, reduceIte, ↓reduceIte, Nat.reduceAdd, Nat.reduceEqDiff, Nat.reduceBEq, beq_self_eq_true, Bool.not_true, Bool.not_false, Bool.and_true, Bool.and_false, Bool.true_and, Bool.false_and, gI_sI, gI_sL, gI_sA, gI_sM, gL_sI, gL_sL, gL_sA, gL_sM, aI_sI, aI_sL, aI_sA, aI_sM, aL_sI, aL_sL, aL_sA, aL_sM, Bpiece_0, Bpiece_20, Bpiece_29, Bpiece_35, Bpiece_42, Bpiece_49, Bpiece_53, Bpiece_54, Bpiece_60, Bpiece_69, Bpiece_74, Bpiece_83, Bpiece_92, Bpiece_97, Bpiece_104, Bpiece_109, Bpiece_116, Bpiece_123, Bpiece_127, Bpiece_128, oi_1, oi_12, oi_125, oi_13, oi_8]; try dsimp only
            refine ⟨trivial, fun w38 τ38 hq38 => ?_⟩
            have hq38 := hq38 s n ⟨(by repeat (first | exact hR | refine SR.i ?_ rfl | refine SR.a ?_ rfl)), hop, hT8, by omega⟩
            rcases hq38 with ⟨rfl, hF38⟩ | ⟨rfl, hR38, hg38, hf38⟩
            · dsimp only [Option.toList, List.cons_append, List.nil_append, Nat.beq, gI_sI, gI_sL, gI_sA, gI_sM, gL_sI, gL_sL, gL_sA, gL_sM, aI_sI, aI_sL, aI_sA, aI_sM, aL_sI, aL_sL, aL_sA, aL_sM]
              unfold Qv_piece
              try dsimp only
              rw [hFq, hT8]
              rw [show ((8 : Int32).toInt :: frR (sI σ 62 (gI σ 62 - 1))) = (8 : Int) :: frR (sI σ 62 (gI σ 62 - 1)) from rfl, pc_cas ha.1 ha.2 (SR.z hR) (by omega)]
              exact StQ.f hF38 (gd_pc _)
            · dsimp only [Option.toList, List.cons_append, List.nil_append, Nat.beq, gI_sI, gI_sL, gI_sA, gI_sM, gL_sI, gL_sL, gL_sA, gL_sM, aI_sI, aI_sL, aI_sA, aI_sM, aL_sI, aL_sL, aL_sA, aL_sM]
              unfold Qv_piece
              try dsimp only
              refine Or.inr ⟨rfl, (casY n s), n, 0, (by repeat (first | exact hR38 | refine SR.i ?_ rfl | refine SR.a ?_ rfl)), (by repeat (first | exact hg38 | refine FgR.i ?_ rfl | refine FgR.a ?_ rfl)), ?_⟩
              rw [hFq, hT8]
              rw [show ((8 : Int32).toInt :: frR (sI σ 62 (gI σ 62 - 1))) = (8 : Int) :: frR (sI σ 62 (gI σ 62 - 1)) from rfl, pc_cas ha.1 ha.2 (SR.z hR) (by omega)]
              rw [hf38, hFq, hT8]
              rfl
          · dsimp only [Option.toList, List.cons_append, List.nil_append, Nat.beq, gI_sI, gI_sL, gI_sA, gI_sM, gL_sI, gL_sL, gL_sA, gL_sM, aI_sI, aI_sL, aI_sA, aI_sM, aL_sI, aL_sL, aL_sA, aL_sM]
            have hc35 : ¬ codY s = 62 := fun q => hk35 (he35.mpr q)
            refine ⟨fun h39 => absurd h39 (by decide), fun h39 => ?_⟩
            clear h39
            refine hB _ _ _ _ _ (fun m40 hm40 => ?_)
            dsimp only [ugo, uwp, ust, uct, rfd, Bpiece, Nat.beq, lv_args, rlk, rs1, rs2, rdl, rky, rcd, rno, rsw, Value.category, List.filter, List.take, List.drop, List.reverse, List.reverseAux, List.cons_append, List.nil_append, Option.toList, Int.toNat, Int.reduceToNat, if_pos, if_neg, reduceIte, ↓reduceIte, Nat.reduceAdd, Nat.reduceEqDiff, Nat.reduceBEq, beq_self_eq_true, Bool.not_true, Bool.not_false, Bool.and_true, Bool.and_false, Bool.true_and, Bool.false_and, gI_sI, gI_sL, gI_sA, gI_sM, gL_sI, gL_sL, gL_sA, gL_sM, aI_sI, aI_sL, aI_sA, aI_sM, aL_sI, aL_sL, aL_sA, aL_sM, Bpiece_0, Bpiece_20, Bpiece_29, Bpiece_35, Bpiece_42, Bpiece_49, Bpiece_53, Bpiece_54, Bpiece_60, Bpiece_69, Bpiece_74, Bpiece_83, Bpiece_92, Bpiece_97, Bpiece_104, Bpiece_109, Bpiece_116, Bpiece_123, Bpiece_127, Bpiece_128, oi_1, oi_12, oi_125, oi_13, oi_8]; try dsimp only
            refine ⟨trivial, fun w41 τ41 hq41 => ?_⟩
            obtain ⟨rfl, b41, rfl, hb41⟩ := hq41 trivial
            have he41 := (XrR.s (SR.x (e_ := 0) (by repeat (first | exact hR | refine SR.i ?_ rfl | refine SR.a ?_ rfl)))).wd (x := 13) (by decide)
            rcases hb41 with ⟨rfl, hk41⟩ | ⟨rfl, hk41⟩
            · dsimp only [Option.toList, List.cons_append, List.nil_append, Nat.beq, gI_sI, gI_sL, gI_sA, gI_sM, gL_sI, gL_sL, gL_sA, gL_sM, aI_sI, aI_sL, aI_sA, aI_sM, aL_sI, aL_sL, aL_sA, aL_sM]
              have hc41 : codY s = 63 := he41.mp hk41
              refine ⟨fun h42 => absurd h42 (by decide), fun h42 => ?_⟩
              clear h42
              refine hB _ _ _ _ _ (fun m43 hm43 => ?_)
              dsimp only [ugo, uwp, ust, uct, rfd, Bpiece, Nat.beq, lv_args, rlk, rs1, rs2, rdl, rky, rcd, rno, rsw, Value.category, List.filter, List.take, List.drop, List.reverse, List.reverseAux, List.cons_append, List.nil_append, Option.toList, Int.toNat, Int.reduceToNat, if_pos, if_neg, reduceIte, ↓reduceIte, Nat.reduceAdd, Nat.reduceEqDiff, Nat.reduceBEq, beq_self_eq_true, Bool.not_true, Bool.not_false, Bool.and_true, Bool.and_false, Bool.true_and, Bool.false_and, gI_sI, gI_sL, gI_sA, gI_sM, gL_sI, gL_sL, gL_sA, gL_sM, aI_sI, aI_sL, aI_sA, aI_sM, aL_sI, aL_sL, aL_sA, aL_sM, Bpiece_0, Bpiece_20, Bpiece_29, Bpiece_35, Bpiece_42, Bpiece_49, Bpiece_53, Bpiece_54, Bpiece_60, Bpiece_69, Bpiece_74, Bpiece_83, Bpiece_92, Bpiece_97, Bpiece_104, Bpiece_109, Bpiece_116, Bpiece_123, Bpiece_127, Bpiece_128, oi_1, oi_12, oi_125, oi_13, oi_8]; try dsimp only
              refine ⟨trivial, fun w44 τ44 hq44 => ?_⟩
              have hq44 := hq44 s n ⟨(by repeat (first | exact hR | refine SR.i ?_ rfl | refine SR.a ?_ rfl)), hop, hT8, by omega⟩
              rcases hq44 with ⟨rfl, hF44⟩ | ⟨rfl, hR44, hg44, hf44⟩
              · dsimp only [Option.toList, List.cons_append, List.nil_append, Nat.beq, gI_sI, gI_sL, gI_sA, gI_sM, gL_sI, gL_sL, gL_sA, gL_sM, aI_sI, aI_sL, aI_sA, aI_sM, aL_sI, aL_sL, aL_sA, aL_sM]
                unfold Qv_piece
                try dsimp only
                rw [hFq, hT8]
                rw [show ((8 : Int32).toInt :: frR (sI σ 62 (gI σ 62 - 1))) = (8 : Int) :: frR (sI σ 62 (gI σ 62 - 1)) from rfl, pc_cas ha.1 ha.2 (SR.z hR) (by omega)]
                exact StQ.f hF44 (gd_pc _)
              · dsimp only [Option.toList, List.cons_append, List.nil_append, Nat.beq, gI_sI, gI_sL, gI_sA, gI_sM, gL_sI, gL_sL, gL_sA, gL_sM, aI_sI, aI_sL, aI_sA, aI_sM, aL_sI, aL_sL, aL_sA, aL_sM]
                unfold Qv_piece
                try dsimp only
                refine Or.inr ⟨rfl, (casY n s), n, 0, (by repeat (first | exact hR44 | refine SR.i ?_ rfl | refine SR.a ?_ rfl)), (by repeat (first | exact hg44 | refine FgR.i ?_ rfl | refine FgR.a ?_ rfl)), ?_⟩
                rw [hFq, hT8]
                rw [show ((8 : Int32).toInt :: frR (sI σ 62 (gI σ 62 - 1))) = (8 : Int) :: frR (sI σ 62 (gI σ 62 - 1)) from rfl, pc_cas ha.1 ha.2 (SR.z hR) (by omega)]
                rw [hf44, hFq, hT8]
                rfl
            · dsimp only [Option.toList, List.cons_append, List.nil_append, Nat.beq, gI_sI, gI_sL, gI_sA, gI_sM, gL_sI, gL_sL, gL_sA, gL_sM, aI_sI, aI_sL, aI_sA, aI_sM, aL_sI, aL_sL, aL_sA, aL_sM]
              have hc41 : ¬ codY s = 63 := fun q => hk41 (he41.mpr q)
              refine ⟨fun h45 => ?_, fun h45 => absurd h45 (by decide)⟩
              clear h45
              refine hB _ _ _ _ _ (fun m46 hm46 => ?_)
              dsimp only [ugo, uwp, ust, uct, rfd, Bpiece, Nat.beq, lv_args, rlk, rs1, rs2, rdl, rky, rcd, rno, rsw, Value.category, List.filter, List.take, List.drop, List.reverse, List.reverseAux, List.cons_append, List.nil_append, Option.toList, Int.toNat, Int.reduceToNat, if_pos, if_neg, reduceIte, ↓reduceIte, Nat.reduceAdd, Nat.reduceEqDiff, Nat.reduceBEq, beq_self_eq_true, Bool.not_true, Bool.not_false, Bool.and_true, Bool.and_false, Bool.true_and, Bool.false_and, gI_sI, gI_sL, gI_sA, gI_sM, gL_sI, gL_sL, gL_sA, gL_sM, aI_sI, aI_sL, aI_sA, aI_sM, aL_sI, aL_sL, aL_sA, aL_sM, Bpiece_0, Bpiece_20, Bpiece_29, Bpiece_35, Bpiece_42, Bpiece_49, Bpiece_53, Bpiece_54, Bpiece_60, Bpiece_69, Bpiece_74, Bpiece_83, Bpiece_92, Bpiece_97, Bpiece_104, Bpiece_109, Bpiece_116, Bpiece_123, Bpiece_127, Bpiece_128, oi_1, oi_12, oi_125, oi_13, oi_8]; try dsimp only
              refine ⟨trivial, fun w47 τ47 hq47 => ?_⟩
              obtain ⟨rfl, hb47⟩ := hq47 trivial
              rcases hb47 with ⟨rfl, hc47⟩ | ⟨rfl, hc47⟩
              · dsimp only [Option.toList, List.cons_append, List.nil_append, Nat.beq, gI_sI, gI_sL, gI_sA, gI_sM, gL_sI, gL_sL, gL_sA, gL_sM, aI_sI, aI_sL, aI_sA, aI_sM, aL_sI, aL_sL, aL_sA, aL_sM]
                refine ⟨fun h48 => ?_, fun h48 => absurd h48 (by decide)⟩
                clear h48
                refine hB _ _ _ _ _ (fun m49 hm49 => ?_)
                dsimp only [ugo, uwp, ust, uct, rfd, Bpiece, Nat.beq, lv_args, rlk, rs1, rs2, rdl, rky, rcd, rno, rsw, Value.category, List.filter, List.take, List.drop, List.reverse, List.reverseAux, List.cons_append, List.nil_append, Option.toList, Int.toNat, Int.reduceToNat, if_pos, if_neg, reduceIte, ↓reduceIte, Nat.reduceAdd, Nat.reduceEqDiff, Nat.reduceBEq, beq_self_eq_true, Bool.not_true, Bool.not_false, Bool.and_true, Bool.and_false, Bool.true_and, Bool.false_and, gI_sI, gI_sL, gI_sA, gI_sM, gL_sI, gL_sL, gL_sA, gL_sM, aI_sI, aI_sL, aI_sA, aI_sM, aL_sI, aL_sL, aL_sA, aL_sM, Bpiece_0, Bpiece_20, Bpiece_29, Bpiece_35, Bpiece_42, Bpiece_49, Bpiece_53, Bpiece_54, Bpiece_60, Bpiece_69, Bpiece_74, Bpiece_83, Bpiece_92, Bpiece_97, Bpiece_104, Bpiece_109, Bpiece_116, Bpiece_123, Bpiece_127, Bpiece_128, oi_1, oi_12, oi_125, oi_13, oi_8]; try dsimp only
                obtain ⟨hb0, hg0⟩ := Fg_yes hg hop hT8 hc47
                refine ⟨trivial, fun w50 τ50 hq50 => ?_⟩
                have hq50 := hq50 _ s n (SR.x (e_ := 0) (by repeat (first | exact hR | refine SR.i ?_ rfl | refine SR.a ?_ rfl)))
                obtain ⟨rfl, hb50⟩ := hq50
                rcases hb50 with ⟨rfl, hc50⟩ | ⟨rfl, hc50⟩
                · dsimp only [Option.toList, List.cons_append, List.nil_append, Nat.beq, gI_sI, gI_sL, gI_sA, gI_sM, gL_sI, gL_sL, gL_sA, gL_sM, aI_sI, aI_sL, aI_sA, aI_sM, aL_sI, aL_sL, aL_sA, aL_sM]
                  refine ⟨fun h51 => absurd h51 (by decide), fun h51 => ?_⟩
                  clear h51
                  refine hB _ _ _ _ _ (fun m52 hm52 => ?_)
                  dsimp only [ugo, uwp, ust, uct, rfd, Bpiece, Nat.beq, lv_args, rlk, rs1, rs2, rdl, rky, rcd, rno, rsw, Value.category, List.filter, List.take, List.drop, List.reverse, List.reverseAux, List.cons_append, List.nil_append, Option.toList, Int.toNat, Int.reduceToNat, if_pos, if_neg, reduceIte, ↓reduceIte, Nat.reduceAdd, Nat.reduceEqDiff, Nat.reduceBEq, beq_self_eq_true, Bool.not_true, Bool.not_false, Bool.and_true, Bool.and_false, Bool.true_and, Bool.false_and, gI_sI, gI_sL, gI_sA, gI_sM, gL_sI, gL_sL, gL_sA, gL_sM, aI_sI, aI_sL, aI_sA, aI_sM, aL_sI, aL_sL, aL_sA, aL_sM, Bpiece_0, Bpiece_20, Bpiece_29, Bpiece_35, Bpiece_42, Bpiece_49, Bpiece_53, Bpiece_54, Bpiece_60, Bpiece_69, Bpiece_74, Bpiece_83, Bpiece_92, Bpiece_97, Bpiece_104, Bpiece_109, Bpiece_116, Bpiece_123, Bpiece_127, Bpiece_128, oi_1, oi_12, oi_125, oi_13, oi_8]; try dsimp only
                  refine ⟨trivial, fun w53 τ53 hq53 => ?_⟩
                  have hq53 := hq53 s n ⟨(by repeat (first | exact hR | refine SR.i ?_ rfl | refine SR.a ?_ rfl)), (by repeat (first | exact hg0 | refine FgR.i ?_ rfl | refine FgR.a ?_ rfl)), (by rw [hFq]; exact List.cons_ne_nil _ _)⟩
                  rcases hq53 with ⟨rfl, hF53⟩ | ⟨rfl, hR53, hg53, hf53, h49_53⟩
                  · dsimp only [Option.toList, List.cons_append, List.nil_append, Nat.beq, gI_sI, gI_sL, gI_sA, gI_sM, gL_sI, gL_sL, gL_sA, gL_sM, aI_sI, aI_sL, aI_sA, aI_sM, aL_sI, aL_sL, aL_sA, aL_sM]
                    refine hB _ _ _ _ _ (fun m54 hm54 => ?_)
                    dsimp only [ugo, uwp, ust, uct, rfd, Bpiece, Nat.beq, lv_args, rlk, rs1, rs2, rdl, rky, rcd, rno, rsw, Value.category, List.filter, List.take, List.drop, List.reverse, List.reverseAux, List.cons_append, List.nil_append, Option.toList, Int.toNat, Int.reduceToNat, if_pos, if_neg, reduceIte, ↓reduceIte, Nat.reduceAdd, Nat.reduceEqDiff, Nat.reduceBEq, beq_self_eq_true, Bool.not_true, Bool.not_false, Bool.and_true, Bool.and_false, Bool.true_and, Bool.false_and, gI_sI, gI_sL, gI_sA, gI_sM, gL_sI, gL_sL, gL_sA, gL_sM, aI_sI, aI_sL, aI_sA, aI_sM, aL_sI, aL_sL, aL_sA, aL_sM, Bpiece_0, Bpiece_20, Bpiece_29, Bpiece_35, Bpiece_42, Bpiece_49, Bpiece_53, Bpiece_54, Bpiece_60, Bpiece_69, Bpiece_74, Bpiece_83, Bpiece_92, Bpiece_97, Bpiece_104, Bpiece_109, Bpiece_116, Bpiece_123, Bpiece_127, Bpiece_128, oi_1, oi_12, oi_125, oi_13, oi_8]; try dsimp only
                    unfold Qv_piece
                    try dsimp only
                    rw [hFq, pc_tol (rwk_in hR hFq (by first | exact Or.inl hcr | exact Or.inr (by lia))) ha.1 ha.2 (SR.z hR) (fun _ => hb0) (by assumption)]
                    refine StQ.f hF53 ?_
                    exact (by repeat (first | with_reducible exact GpY.rf | with_reducible refine GpY.tr ?_ (gd_fo _) | with_reducible refine GpY.tr ?_ (gd_ef _) | with_reducible refine GpY.tr ?_ (gd_cf _) | with_reducible refine GpY.tr ?_ (gd_wt _) | with_reducible refine GpY.tr ?_ (gd_xp _) | with_reducible refine GpY.tr ?_ (gd_acc _) | with_reducible refine GpY.tr ?_ (gd_rai _) | with_reducible refine GpY.tr ?_ (gd_e _) | with_reducible refine GpY.tr ?_ (gd_o _) | with_reducible refine GpY.tr ?_ (gd_c _) | with_reducible refine GpY.tr ?_ (gd_op _) | with_reducible refine GpY.tr ?_ (gd_clp gd_e _ _) | with_reducible refine GpY.tr ?_ (gd_tl _) | with_reducible refine GpY.tr ?_ (gd_sf _ _ _) | with_reducible refine GpY.tr ?_ (gd_cl _) | with_reducible refine GpY.tr ?_ (gd_pc _) | with_reducible refine GpY.tr ?_ (gd_st _) | with_reducible refine GpY.tr ?_ (gd_rw _) | with_reducible refine GpY.tr ?_ (gd_typ _) | with_reducible refine GpY.tr ?_ (gd_dcl _) | with_reducible refine GpY.tr ?_ (gd_va2 _) | with_reducible refine GpY.tr ?_ (gd_cnd _) | with_reducible refine GpY.tr ?_ (gd_tr1 _) | with_reducible refine GpY.tr ?_ (gd_tr2 (fun _ => gd_rw) _) | with_reducible refine GpY.tr ?_ (gd_tr3 (fun _ => gd_rw) _) | with_reducible refine GpY.tr ?_ (gd_fo1 _) | with_reducible refine GpY.tr ?_ (gd_fo2 _) | with_reducible refine GpY.tr ?_ (gd_fo3 _) | with_reducible refine GpY.tr ?_ (gd_fex _) | with_reducible refine GpY.tr ?_ (pg_var.1) | with_reducible refine GpY.tr ?_ (pg_cas.1) | exact GpY.rf))
                  · dsimp only [Option.toList, List.cons_append, List.nil_append, Nat.beq, gI_sI, gI_sL, gI_sA, gI_sM, gL_sI, gL_sL, gL_sA, gL_sM, aI_sI, aI_sL, aI_sA, aI_sM, aL_sI, aL_sL, aL_sA, aL_sM]
                    refine hB _ _ _ _ _ (fun m55 hm55 => ?_)
                    dsimp only [ugo, uwp, ust, uct, rfd, Bpiece, Nat.beq, lv_args, rlk, rs1, rs2, rdl, rky, rcd, rno, rsw, Value.category, List.filter, List.take, List.drop, List.reverse, List.reverseAux, List.cons_append, List.nil_append, Option.toList, Int.toNat, Int.reduceToNat, if_pos, if_neg, reduceIte, ↓reduceIte, Nat.reduceAdd, Nat.reduceEqDiff, Nat.reduceBEq, beq_self_eq_true, Bool.not_true, Bool.not_false, Bool.and_true, Bool.and_false, Bool.true_and, Bool.false_and, gI_sI, gI_sL, gI_sA, gI_sM, gL_sI, gL_sL, gL_sA, gL_sM, aI_sI, aI_sL, aI_sA, aI_sM, aL_sI, aL_sL, aL_sA, aL_sM, Bpiece_0, Bpiece_20, Bpiece_29, Bpiece_35, Bpiece_42, Bpiece_49, Bpiece_53, Bpiece_54, Bpiece_60, Bpiece_69, Bpiece_74, Bpiece_83, Bpiece_92, Bpiece_97, Bpiece_104, Bpiece_109, Bpiece_116, Bpiece_123, Bpiece_127, Bpiece_128, oi_1, oi_12, oi_125, oi_13, oi_8]; try dsimp only
                    unfold Qv_piece
                    try dsimp only
                    refine Or.inr ⟨rfl, (xpY 4 (varY n s)), n, 0, (by repeat (first | exact hR53 | refine SR.i ?_ rfl | refine SR.a ?_ rfl)), (by repeat (first | exact hg53 | refine FgR.i ?_ rfl | refine FgR.a ?_ rfl)), ?_⟩
                    rw [hFq, pc_tol (rwk_in hR hFq (by first | exact Or.inl hcr | exact Or.inr (by lia))) ha.1 ha.2 (SR.z hR) (fun _ => hb0) (by assumption)]
                    rw [hf53, hFq]
                · dsimp only [Option.toList, List.cons_append, List.nil_append, Nat.beq, gI_sI, gI_sL, gI_sA, gI_sM, gL_sI, gL_sL, gL_sA, gL_sM, aI_sI, aI_sL, aI_sA, aI_sM, aL_sI, aL_sL, aL_sA, aL_sM]
                  refine ⟨fun h56 => ?_, fun h56 => absurd h56 (by decide)⟩
                  clear h56
                  refine hB _ _ _ _ _ (fun m57 hm57 => ?_)
                  dsimp only [ugo, uwp, ust, uct, rfd, Bpiece, Nat.beq, lv_args, rlk, rs1, rs2, rdl, rky, rcd, rno, rsw, Value.category, List.filter, List.take, List.drop, List.reverse, List.reverseAux, List.cons_append, List.nil_append, Option.toList, Int.toNat, Int.reduceToNat, if_pos, if_neg, reduceIte, ↓reduceIte, Nat.reduceAdd, Nat.reduceEqDiff, Nat.reduceBEq, beq_self_eq_true, Bool.not_true, Bool.not_false, Bool.and_true, Bool.and_false, Bool.true_and, Bool.false_and, gI_sI, gI_sL, gI_sA, gI_sM, gL_sI, gL_sL, gL_sA, gL_sM, aI_sI, aI_sL, aI_sA, aI_sM, aL_sI, aL_sL, aL_sA, aL_sM, Bpiece_0, Bpiece_20, Bpiece_29, Bpiece_35, Bpiece_42, Bpiece_49, Bpiece_53, Bpiece_54, Bpiece_60, Bpiece_69, Bpiece_74, Bpiece_83, Bpiece_92, Bpiece_97, Bpiece_104, Bpiece_109, Bpiece_116, Bpiece_123, Bpiece_127, Bpiece_128, oi_1, oi_12, oi_125, oi_13, oi_8]; try dsimp only
                  refine ⟨trivial, fun w58 τ58 hq58 => ?_⟩
                  have hq58 : StQ τ58 _ w58 := hq58 s n ⟨(by repeat (first | exact hR | refine SR.i ?_ rfl | refine SR.a ?_ rfl)), (by repeat (first | exact hg0 | refine FgR.i ?_ rfl | refine FgR.a ?_ rfl)), (by rw [hFq]; exact List.cons_ne_nil _ _)⟩
                  have hv58 : w58 = some (.int 0) ∨ w58 = some (.int 1) := hq58.imp (fun q => q.1) (fun q => q.1)
                  rcases hv58 with rfl | rfl
                  · dsimp only [Option.toList, List.cons_append, List.nil_append, Nat.beq, gI_sI, gI_sL, gI_sA, gI_sM, gL_sI, gL_sL, gL_sA, gL_sM, aI_sI, aI_sL, aI_sA, aI_sM, aL_sI, aL_sL, aL_sA, aL_sM]
                    refine hB _ _ _ _ _ (fun m59 hm59 => ?_)
                    dsimp only [ugo, uwp, ust, uct, rfd, Bpiece, Nat.beq, lv_args, rlk, rs1, rs2, rdl, rky, rcd, rno, rsw, Value.category, List.filter, List.take, List.drop, List.reverse, List.reverseAux, List.cons_append, List.nil_append, Option.toList, Int.toNat, Int.reduceToNat, if_pos, if_neg, reduceIte, ↓reduceIte, Nat.reduceAdd, Nat.reduceEqDiff, Nat.reduceBEq, beq_self_eq_true, Bool.not_true, Bool.not_false, Bool.and_true, Bool.and_false, Bool.true_and, Bool.false_and, gI_sI, gI_sL, gI_sA, gI_sM, gL_sI, gL_sL, gL_sA, gL_sM, aI_sI, aI_sL, aI_sA, aI_sM, aL_sI, aL_sL, aL_sA, aL_sM, Bpiece_0, Bpiece_20, Bpiece_29, Bpiece_35, Bpiece_42, Bpiece_49, Bpiece_53, Bpiece_54, Bpiece_60, Bpiece_69, Bpiece_74, Bpiece_83, Bpiece_92, Bpiece_97, Bpiece_104, Bpiece_109, Bpiece_116, Bpiece_123, Bpiece_127, Bpiece_128, oi_1, oi_12, oi_125, oi_13, oi_8]; try dsimp only
                    unfold Qv_piece
                    try dsimp only
                    rw [hFq, pc_sta (rwk_in hR hFq (by first | exact Or.inl hcr | exact Or.inr (by lia))) ha.1 ha.2 (SR.z hR) (fun _ => ⟨hb0, by assumption, by assumption⟩) (by assumption) (by assumption)]
                    have hq_ := hq58
                    rw [hFq] at hq_
                    exact hq_
                  · dsimp only [Option.toList, List.cons_append, List.nil_append, Nat.beq, gI_sI, gI_sL, gI_sA, gI_sM, gL_sI, gL_sL, gL_sA, gL_sM, aI_sI, aI_sL, aI_sA, aI_sM, aL_sI, aL_sL, aL_sA, aL_sM]
                    refine hB _ _ _ _ _ (fun m60 hm60 => ?_)
                    dsimp only [ugo, uwp, ust, uct, rfd, Bpiece, Nat.beq, lv_args, rlk, rs1, rs2, rdl, rky, rcd, rno, rsw, Value.category, List.filter, List.take, List.drop, List.reverse, List.reverseAux, List.cons_append, List.nil_append, Option.toList, Int.toNat, Int.reduceToNat, if_pos, if_neg, reduceIte, ↓reduceIte, Nat.reduceAdd, Nat.reduceEqDiff, Nat.reduceBEq, beq_self_eq_true, Bool.not_true, Bool.not_false, Bool.and_true, Bool.and_false, Bool.true_and, Bool.false_and, gI_sI, gI_sL, gI_sA, gI_sM, gL_sI, gL_sL, gL_sA, gL_sM, aI_sI, aI_sL, aI_sA, aI_sM, aL_sI, aL_sL, aL_sA, aL_sM, Bpiece_0, Bpiece_20, Bpiece_29, Bpiece_35, Bpiece_42, Bpiece_49, Bpiece_53, Bpiece_54, Bpiece_60, Bpiece_69, Bpiece_74, Bpiece_83, Bpiece_92, Bpiece_97, Bpiece_104, Bpiece_109, Bpiece_116, Bpiece_123, Bpiece_127, Bpiece_128, oi_1, oi_12, oi_125, oi_13, oi_8]; try dsimp only
                    unfold Qv_piece
                    try dsimp only
                    rw [hFq, pc_sta (rwk_in hR hFq (by first | exact Or.inl hcr | exact Or.inr (by lia))) ha.1 ha.2 (SR.z hR) (fun _ => ⟨hb0, by assumption, by assumption⟩) (by assumption) (by assumption)]
                    have hq_ := hq58
                    rw [hFq] at hq_
                    exact hq_
              · dsimp only [Option.toList, List.cons_append, List.nil_append, Nat.beq, gI_sI, gI_sL, gI_sA, gI_sM, gL_sI, gL_sL, gL_sA, gL_sM, aI_sI, aI_sL, aI_sA, aI_sM, aL_sI, aL_sL, aL_sA, aL_sM]
                refine ⟨fun h61 => absurd h61 (by decide), fun h61 => ?_⟩
                clear h61
                refine hB _ _ _ _ _ (fun m62 hm62 => ?_)
                dsimp only [ugo, uwp, ust, uct, rfd, Bpiece, Nat.beq, lv_args, rlk, rs1, rs2, rdl, rky, rcd, rno, rsw, Value.category, List.filter, List.take, List.drop, List.reverse, List.reverseAux, List.cons_append, List.nil_append, Option.toList, Int.toNat, Int.reduceToNat, if_pos, if_neg, reduceIte, ↓reduceIte, Nat.reduceAdd, Nat.reduceEqDiff, Nat.reduceBEq, beq_self_eq_true, Bool.not_true, Bool.not_false, Bool.and_true, Bool.and_false, Bool.true_and, Bool.false_and, gI_sI, gI_sL, gI_sA, gI_sM, gL_sI, gL_sL, gL_sA, gL_sM, aI_sI, aI_sL, aI_sA, aI_sM, aL_sI, aL_sL, aL_sA, aL_sM, Bpiece_0, Bpiece_20, Bpiece_29, Bpiece_35, Bpiece_42, Bpiece_49, Bpiece_53, Bpiece_54, Bpiece_60, Bpiece_69, Bpiece_74, Bpiece_83, Bpiece_92, Bpiece_97, Bpiece_104, Bpiece_109, Bpiece_116, Bpiece_123, Bpiece_127, Bpiece_128, oi_1, oi_12, oi_125, oi_13, oi_8]; try dsimp only
                refine ⟨trivial, fun w63 τ63 hq63 => ?_⟩
                have hq63 := hq63 s (XrR.s (SR.x (e_ := 0) (by repeat (first | exact hR | refine SR.i ?_ rfl | refine SR.a ?_ rfl))))
                obtain ⟨rfl, hF63⟩ := hq63
                dsimp only [Option.toList, List.cons_append, List.nil_append, Nat.beq, gI_sI, gI_sL, gI_sA, gI_sM, gL_sI, gL_sL, gL_sA, gL_sM, aI_sI, aI_sL, aI_sA, aI_sM, aL_sI, aL_sL, aL_sA, aL_sM]
                unfold Qv_piece
                try dsimp only
                have hb1 := Fg_no hg hop hT8 hc47
                subst hb1
                rw [hFq, hT8]
                exact StQ.f hF63 (pc_sw0 ha.1 ha.2 (SR.z hR) (by assumption) ⟨by assumption, by assumption⟩)
  next => exact hP.elim
theorem w_piece : UMet 44 (fun _ _ => True) Qw_piece := fun A1 σ _ w τ h s n b hP => v_piece s n b A1 σ hP w τ h
