theorem p2_cd {n : Nat} : P2Y (cndY n) := fun s => by
  unfold cndY
  rw [p2_xp, p2_e, p2_xp]
def Pv_ifOfZ (N : Int → Int) (z : ZS) (n : Nat) (F : List FrZ) : UP1 := fun A1 σ => match A1 with
  | [] => SR σ z.1 n ∧ FgR σ 0 ∧ frR σ ≠ [] ∧ BZ N σ z F F ∧ KtR σ z ∧ WfF F ∧ LuZ z F ∧ 1 ≤ zAt z.1 ∧ codY z.1 = 56
  | _ => False
def Qv_ifOfZ (N : Int → Int) (z : ZS) (n : Nat) (F : List FrZ) : UQ1 := fun A1 σ w τ => match A1 with
  | [] => StZ N τ (sfM N F n (stM N n z)) w
  | _ => False
def Qw_ifOfZ : UQ1 := fun A1 σ w τ => ∀ (N : Int → Int) (z : ZS) (n : Nat) (F : List FrZ), Pv_ifOfZ N z n F A1 σ → Qv_ifOfZ N z n F A1 σ w τ
set_option maxRecDepth 100000 in
set_option maxHeartbeats 4000000 in
theorem v_ifOfZ (N : Int → Int) (z : ZS) (n : Nat) (F : List FrZ) : UMet 53 (Pv_ifOfZ N z n F) (Qv_ifOfZ N z n F) := by
  refine UMet.by BifOf [(52, (fun _ _ => True), (LqR Qw_conditionZ)), (20, (fun _ _ => True), (LqR Qw_emitZ)), (36, (fun _ _ => True), (LqR Qw_openZ)), (17, (fun _ _ => True), (LqR Qw_take)), (35, (fun _ _ => True), (LqR Qw_thingZ))] rfl (ucc (UMet.aL ck_P rfl w_conditionZ) (ucc (UMet.aL ck_P rfl w_emitZ) (ucc (UMet.aL ck_P rfl w_openZ) (ucc (UMet.aL ck_P rfl w_take) (ucc (UMet.aL ck_P rfl w_thingZ) uc0))))) ?_
  intro A1 σ hP K hB hW
  unfold Pv_ifOfZ at hP
  split at hP
  next =>
    obtain ⟨hR, hg, hne, hZ, hK, hw, hu, ha1, hcd⟩ := hP
    have hnn := hR.2.1
    have hm6 := hR.2.2.1.2.2.resolve_left hne
    have hC : (gI σ 14).toInt = zAt z.1 := hR.1.2.1.1.symm
    have hPhi := lf_sst (n := n) hZ hw
    intro n0_
    refine hB _ _ _ _ _ (fun m1 hm1 => ?_)
    dsimp only [ugo, uwp, ust, uct, rfd, BifOf, Nat.beq, lv_args, rlk, rs1, rs2, rdl, rky, rcd, rno, rsw, Value.category, List.filter, List.take, List.drop, List.reverse, List.reverseAux, List.cons_append, List.nil_append, Option.toList, Int.toNat, Int.reduceToNat, if_pos, if_neg, reduceIte, ↓reduceIte, Nat.reduceAdd, Nat.reduceEqDiff, Nat.reduceBEq, beq_self_eq_true, Bool.not_true, Bool.not_false, Bool.and_true, Bool.and_false, Bool.true_and, Bool.false_and, gI_sI, gI_sL, gI_sA, gI_sM, gL_sI, gL_sL, gL_sA, gL_sM, aI_sI, aI_sL, aI_sA, aI_sM, aL_sI, aL_sL, aL_sA, aL_sM, BifOf_0, BifOf_28, BifOf_35, BifOf_37, oi_0, oi_2, oi_20, oi_23]; try dsimp only
    refine ⟨trivial, fun w2 τ2 hq2 => ?_⟩
    obtain ⟨hq2, hL2⟩ := hq2
    obtain ⟨rfl, hEz2⟩ := hq2 trivial
    have hE2 := hEz2.1
    have hR2 := SR.em (e_ := 0) (s := z.1) (n := n) (by repeat (first | exact hR | refine SR.i ?_ rfl | refine SR.a ?_ rfl)) hE2
    have hf2 := frR_em hE2
    have hg2 := FgR.em (e_ := 0) (by repeat (first | exact hg | refine FgR.i ?_ rfl | refine FgR.a ?_ rfl)) (s := z.1) (n := n) (by repeat (first | exact hR | refine SR.i ?_ rfl | refine SR.a ?_ rfl)) hE2
    dsimp only [Option.toList, List.cons_append, List.nil_append, Nat.beq, gI_sI, gI_sL, gI_sA, gI_sM, gL_sI, gL_sL, gL_sA, gL_sM, aI_sI, aI_sL, aI_sA, aI_sM, aL_sI, aL_sL, aL_sA, aL_sM]
    have k6_2 : 0 < gI τ2 36 := by rw [hE2.1 36 (by decide)]; exact hm6
    have hstI : (gI σ 18).toInt = (cnM z : Int) := em18 (N := N) (F := F) (K := F) hEz2 (by repeat (first | exact hZ | refine BZ.i ?_ rfl | refine BZ.a ?_ rfl))
    have hZ2 : BZ N τ2 (coM 20 0 0 (zAt z.1) z) F F := BZ.co (x := ((20 : Int), (0 : Int), (0 : Int), ((zAt z.1) : Int), ((-1) : Int))) (by repeat (first | exact hZ | refine BZ.i ?_ rfl | refine BZ.a ?_ rfl)) hEz2 hL2 rfl (rfl) rfl (hC) (show ¬ (20 : Int) = 51 by decide)
    have hK2 : KtR τ2 (coM 20 0 0 (zAt z.1) z) := KtR.en (x := ((20 : Int), (0 : Int), (0 : Int), ((zAt z.1) : Int), ((-1) : Int))) (by repeat (first | exact hK | refine KtR.i ?_ | refine KtR.a ?_ (by decide))) (emK hEz2) (show thO 20 = false by decide)
    have hs2 : (coM 20 0 0 (zAt z.1) z).1 = z.1 := rfl
    refine ⟨trivial, fun w3 τ3 hq3 => ?_⟩
    obtain ⟨hq3, hL3⟩ := hq3
    obtain ⟨rfl, hTz3⟩ := hq3 trivial
    have hT3 := hTz3.1
    have hR3 := SR.th (e_ := 0) (s := z.1) (n := n) (by repeat (first | exact hR2 | refine SR.i ?_ rfl | refine SR.a ?_ rfl)) hT3
    have hg3 := FgR.th (e_ := 0) (by repeat (first | exact hg2 | refine FgR.i ?_ rfl | refine FgR.a ?_ rfl)) (s := z.1) (n := n) (by repeat (first | exact hR2 | refine SR.i ?_ rfl | refine SR.a ?_ rfl)) hT3
    have hf3 := frR_th hT3
    have hk3 := th49 hT3
    have k6_3 : 0 < gI τ3 36 := by rw [hT3.1 36 (by decide)]; exact k6_2
    have k9_3 : nT (gI τ2 49) < nT (gI τ3 49) := kthx hk3
    dsimp only [Option.toList, List.cons_append, List.nil_append, Nat.beq, gI_sI, gI_sL, gI_sA, gI_sM, gL_sI, gL_sL, gL_sA, gL_sM, aI_sI, aI_sL, aI_sA, aI_sM, aL_sI, aL_sL, aL_sA, aL_sM]
    have hkI := BZ.k49 hZ2
    have hkI : (gI τ2 49).toInt = (tnM z : Int) := hkI
    have hn49 : nT (gI τ2 49) = tnM z := hZ2.1.2.1.1
    have r60_3 : (aI τ3 60 (tnM z)).toInt = zAt z.1 := by rw [hTz3.2.2.1, hn49, upd_eq]; exact hC
    have hZ3 : BZ N τ3 (thM (beM 56 (lvN n) (coM 20 0 0 (zAt z.1) z))) F F := BZ.th (BZ.be (k := 56) (lv := lvN n) hZ2) hTz3 hL3
    have hK3 : KtR τ3 (thM (beM 56 (lvN n) (coM 20 0 0 (zAt z.1) z))) := KtR.th (z := beM 56 (lvN n) (coM 20 0 0 (zAt z.1) z)) (KtR.gh hK2 rfl rfl) hTz3 hZ2.1.2.1.1 hZ2.c18 (by have q1 := hE2.2.1; have q2 := hE2.2.2.2.2.2; lia)
    have hs3 : (thM (beM 56 (lvN n) (coM 20 0 0 (zAt z.1) z))).1 = z.1 := hs2
    have hPg3 : PgZ z (thM (beM 56 (lvN n) (coM 20 0 0 (zAt z.1) z))) (thM (beM 56 (lvN n) (coM 20 0 0 (zAt z.1) z))) := PgZ.rf rfl
    refine ⟨trivial, fun w4 τ4 hq4 => ?_⟩
    obtain ⟨hq4, hL4⟩ := hq4
    have hq4 := hq4 _ z.1 n ⟨(SR.x (e_ := 0) (by repeat (first | exact hR3 | refine SR.i ?_ rfl | refine SR.a ?_ rfl))), by omega, by omega⟩
    rcases hq4 with ⟨rfl, hF4⟩ | ⟨rfl, hX4, hz4, hS4⟩
    · dsimp only [Option.toList, List.cons_append, List.nil_append, Nat.beq, gI_sI, gI_sL, gI_sA, gI_sM, gL_sI, gL_sL, gL_sA, gL_sM, aI_sI, aI_sL, aI_sA, aI_sM, aL_sI, aL_sL, aL_sA, aL_sM]
      refine ⟨fun h5 => ?_, fun h5 => absurd h5 (by decide)⟩
      clear h5
      refine hB _ _ _ _ _ (fun m6 hm6 => ?_)
      dsimp only [ugo, uwp, ust, uct, rfd, BifOf, Nat.beq, lv_args, rlk, rs1, rs2, rdl, rky, rcd, rno, rsw, Value.category, List.filter, List.take, List.drop, List.reverse, List.reverseAux, List.cons_append, List.nil_append, Option.toList, Int.toNat, Int.reduceToNat, if_pos, if_neg, reduceIte, ↓reduceIte, Nat.reduceAdd, Nat.reduceEqDiff, Nat.reduceBEq, beq_self_eq_true, Bool.not_true, Bool.not_false, Bool.and_true, Bool.and_false, Bool.true_and, Bool.false_and, gI_sI, gI_sL, gI_sA, gI_sM, gL_sI, gL_sL, gL_sA, gL_sM, aI_sI, aI_sL, aI_sA, aI_sM, aL_sI, aL_sL, aL_sA, aL_sM, BifOf_0, BifOf_28, BifOf_35, BifOf_37, oi_0, oi_2, oi_20, oi_23]; try dsimp only
      unfold Qv_ifOfZ
      try dsimp only
      refine StZ.o hPhi ?_
      rw [st_if' hnn.2.1 hcd]
      refine StQ.f hF4 ?_
      exact (by repeat (first | with_reducible exact GpY.rf | with_reducible refine GpY.tr ?_ (gd_fo _) | with_reducible refine GpY.tr ?_ (gd_ef _) | with_reducible refine GpY.tr ?_ (gd_cf _) | with_reducible refine GpY.tr ?_ (gd_wt _) | with_reducible refine GpY.tr ?_ (gd_xp _) | with_reducible refine GpY.tr ?_ (gd_acc _) | with_reducible refine GpY.tr ?_ (gd_rai _) | with_reducible refine GpY.tr ?_ (gd_e _) | with_reducible refine GpY.tr ?_ (gd_o _) | with_reducible refine GpY.tr ?_ (gd_c _) | with_reducible refine GpY.tr ?_ (gd_op _) | with_reducible refine GpY.tr ?_ (gd_clp gd_e _ _) | with_reducible refine GpY.tr ?_ (gd_tl _) | with_reducible refine GpY.tr ?_ (gd_sf _ _ _) | with_reducible refine GpY.tr ?_ (gd_cl _) | with_reducible refine GpY.tr ?_ (gd_pc _) | with_reducible refine GpY.tr ?_ (gd_st _) | with_reducible refine GpY.tr ?_ (gd_rw _) | with_reducible refine GpY.tr ?_ (gd_typ _) | with_reducible refine GpY.tr ?_ (gd_dcl _) | with_reducible refine GpY.tr ?_ (gd_va2 _) | with_reducible refine GpY.tr ?_ (gd_cnd _) | with_reducible refine GpY.tr ?_ (gd_tr1 _) | with_reducible refine GpY.tr ?_ (gd_tr2 (fun _ => gd_rw) _) | with_reducible refine GpY.tr ?_ (gd_tr3 (fun _ => gd_rw) _) | with_reducible refine GpY.tr ?_ (gd_fo1 _) | with_reducible refine GpY.tr ?_ (gd_fo2 _) | with_reducible refine GpY.tr ?_ (gd_fo3 _) | with_reducible refine GpY.tr ?_ (gd_fex _) | with_reducible refine GpY.tr ?_ (pg_var.1) | with_reducible refine GpY.tr ?_ (pg_cas.1) | exact GpY.rf))
    · dsimp only [Option.toList, List.cons_append, List.nil_append, Nat.beq, gI_sI, gI_sL, gI_sA, gI_sM, gL_sI, gL_sL, gL_sA, gL_sM, aI_sI, aI_sL, aI_sA, aI_sM, aL_sI, aL_sL, aL_sA, aL_sM]
      have hR4 := SR.kr (e_ := 0) (by repeat (first | exact hR3 | refine SR.i ?_ rfl | refine SR.a ?_ rfl)) hX4 acc2
      have hg4 := FgR.kr (e_ := 0) (s := z.1) (n := n) (by repeat (first | exact hg3 | refine FgR.i ?_ rfl | refine FgR.a ?_ rfl)) (by repeat (first | exact hR3 | refine SR.i ?_ rfl | refine SR.a ?_ rfl)) hX4
      have hf4 := frR_kr hX4
      have k6_4 : 0 < gI τ4 36 := by rw [hX4.2.2.1.1 36 rfl]; exact k6_3
      have k9_4 : nT (gI τ2 49) < nT (gI τ4 49) := by rw [hX4.2.2.1.1 49 rfl]; exact k9_3
      have hZ4 : BZ N τ4 (accM (thM (beM 56 (lvN n) (coM 20 0 0 (zAt z.1) z)))) F F := BZ.tk (by repeat (first | exact hZ3 | refine BZ.i ?_ rfl | refine BZ.a ?_ rfl)) hS4 hL4
      have hK4 : KtR τ4 (accM (thM (beM 56 (lvN n) (coM 20 0 0 (zAt z.1) z)))) := KtR.tk (by repeat (first | exact hK3 | refine KtR.i ?_ | refine KtR.a ?_ (by decide))) hS4
      have hs4 : (accM (thM (beM 56 (lvN n) (coM 20 0 0 (zAt z.1) z)))).1 = (accY z.1) := congrArg accY hs3
      have hPg4 : PgZ z (thM (beM 56 (lvN n) (coM 20 0 0 (zAt z.1) z))) (accM (thM (beM 56 (lvN n) (coM 20 0 0 (zAt z.1) z)))) := PgZ.e hPg3 rfl rfl
      have k4_4 : (accM (thM (beM 56 (lvN n) (coM 20 0 0 (zAt z.1) z)))).2.2.2 = (thM (beM 56 (lvN n) (coM 20 0 0 (zAt z.1) z))).2.2.2 := rfl
      have r60_4 : aI τ4 60 = _ := (hS4.2 60).trans rfl
      refine ⟨fun h7 => absurd h7 (by decide), fun h7 => ?_⟩
      clear h7
      refine hB _ _ _ _ _ (fun m8 hm8 => ?_)
      dsimp only [ugo, uwp, ust, uct, rfd, BifOf, Nat.beq, lv_args, rlk, rs1, rs2, rdl, rky, rcd, rno, rsw, Value.category, List.filter, List.take, List.drop, List.reverse, List.reverseAux, List.cons_append, List.nil_append, Option.toList, Int.toNat, Int.reduceToNat, if_pos, if_neg, reduceIte, ↓reduceIte, Nat.reduceAdd, Nat.reduceEqDiff, Nat.reduceBEq, beq_self_eq_true, Bool.not_true, Bool.not_false, Bool.and_true, Bool.and_false, Bool.true_and, Bool.false_and, gI_sI, gI_sL, gI_sA, gI_sM, gL_sI, gL_sL, gL_sA, gL_sM, aI_sI, aI_sL, aI_sA, aI_sM, aL_sI, aL_sL, aL_sA, aL_sM, BifOf_0, BifOf_28, BifOf_35, BifOf_37, oi_0, oi_2, oi_20, oi_23]; try dsimp only
      refine ⟨trivial, fun w9 τ9 hq9 => ?_⟩
      obtain ⟨hq9, hL9⟩ := hq9
      have hq9 := hq9 N _ (accM (thM (beM 56 (lvN n) (coM 20 0 0 (zAt z.1) z)))) n ⟨by rw [show (accM (thM (beM 56 (lvN n) (coM 20 0 0 (zAt z.1) z)))).1 = (accY z.1) from hs4]; exact (SR.x (e_ := 0) (by repeat (first | exact hR4 | refine SR.i ?_ rfl | refine SR.a ?_ rfl))), by omega, BZ.pcm (N := N) (F := F) (K := F) (by repeat (first | exact hZ4 | refine BZ.i ?_ rfl | refine BZ.a ?_ rfl)), BZ.tl (N := N) (F := F) (K := F) (by repeat (first | exact hZ4 | refine BZ.i ?_ rfl | refine BZ.a ?_ rfl))⟩
      rcases hq9 with ⟨rfl, hF9⟩ | ⟨rfl, hX9, hPx9, h33_9⟩
      · dsimp only [Option.toList, List.cons_append, List.nil_append, Nat.beq, gI_sI, gI_sL, gI_sA, gI_sM, gL_sI, gL_sL, gL_sA, gL_sM, aI_sI, aI_sL, aI_sA, aI_sM, aL_sI, aL_sL, aL_sA, aL_sM]
        rw [show (accM (thM (beM 56 (lvN n) (coM 20 0 0 (zAt z.1) z)))).1 = (accY z.1) from hs4] at hF9
        refine ⟨fun h10 => absurd h10 (by decide), fun h10 => ?_⟩
        clear h10
        refine hB _ _ _ _ _ (fun m11 hm11 => ?_)
        dsimp only [ugo, uwp, ust, uct, rfd, BifOf, Nat.beq, lv_args, rlk, rs1, rs2, rdl, rky, rcd, rno, rsw, Value.category, List.filter, List.take, List.drop, List.reverse, List.reverseAux, List.cons_append, List.nil_append, Option.toList, Int.toNat, Int.reduceToNat, if_pos, if_neg, reduceIte, ↓reduceIte, Nat.reduceAdd, Nat.reduceEqDiff, Nat.reduceBEq, beq_self_eq_true, Bool.not_true, Bool.not_false, Bool.and_true, Bool.and_false, Bool.true_and, Bool.false_and, gI_sI, gI_sL, gI_sA, gI_sM, gL_sI, gL_sL, gL_sA, gL_sM, aI_sI, aI_sL, aI_sA, aI_sM, aL_sI, aL_sL, aL_sA, aL_sM, BifOf_0, BifOf_28, BifOf_35, BifOf_37, oi_0, oi_2, oi_20, oi_23]; try dsimp only
        unfold Qv_ifOfZ
        try dsimp only
        refine StZ.o hPhi ?_
        rw [st_if' hnn.2.1 hcd]
        refine StQ.f hF9 ?_
        exact (by repeat (first | with_reducible exact GpY.rf | with_reducible refine GpY.tr ?_ (gd_fo _) | with_reducible refine GpY.tr ?_ (gd_ef _) | with_reducible refine GpY.tr ?_ (gd_cf _) | with_reducible refine GpY.tr ?_ (gd_wt _) | with_reducible refine GpY.tr ?_ (gd_xp _) | with_reducible refine GpY.tr ?_ (gd_acc _) | with_reducible refine GpY.tr ?_ (gd_rai _) | with_reducible refine GpY.tr ?_ (gd_e _) | with_reducible refine GpY.tr ?_ (gd_o _) | with_reducible refine GpY.tr ?_ (gd_c _) | with_reducible refine GpY.tr ?_ (gd_op _) | with_reducible refine GpY.tr ?_ (gd_clp gd_e _ _) | with_reducible refine GpY.tr ?_ (gd_tl _) | with_reducible refine GpY.tr ?_ (gd_sf _ _ _) | with_reducible refine GpY.tr ?_ (gd_cl _) | with_reducible refine GpY.tr ?_ (gd_pc _) | with_reducible refine GpY.tr ?_ (gd_st _) | with_reducible refine GpY.tr ?_ (gd_rw _) | with_reducible refine GpY.tr ?_ (gd_typ _) | with_reducible refine GpY.tr ?_ (gd_dcl _) | with_reducible refine GpY.tr ?_ (gd_va2 _) | with_reducible refine GpY.tr ?_ (gd_cnd _) | with_reducible refine GpY.tr ?_ (gd_tr1 _) | with_reducible refine GpY.tr ?_ (gd_tr2 (fun _ => gd_rw) _) | with_reducible refine GpY.tr ?_ (gd_tr3 (fun _ => gd_rw) _) | with_reducible refine GpY.tr ?_ (gd_fo1 _) | with_reducible refine GpY.tr ?_ (gd_fo2 _) | with_reducible refine GpY.tr ?_ (gd_fo3 _) | with_reducible refine GpY.tr ?_ (gd_fex _) | with_reducible refine GpY.tr ?_ (pg_var.1) | with_reducible refine GpY.tr ?_ (pg_cas.1) | exact GpY.rf))
      · dsimp only [Option.toList, List.cons_append, List.nil_append, Nat.beq, gI_sI, gI_sL, gI_sA, gI_sM, gL_sI, gL_sL, gL_sA, gL_sM, aI_sI, aI_sL, aI_sA, aI_sM, aL_sI, aL_sL, aL_sA, aL_sM]
        rw [show (accM (thM (beM 56 (lvN n) (coM 20 0 0 (zAt z.1) z)))).1 = (accY z.1) from hs4] at hX9
        have hR9 := SR.kr (e_ := 0) (by repeat (first | exact hR4 | refine SR.i ?_ rfl | refine SR.a ?_ rfl)) hX9 (p2_cd _)
        have hg9 := FgR.kr (e_ := 0) (s := (accY z.1)) (n := n) (by repeat (first | exact hg4 | refine FgR.i ?_ rfl | refine FgR.a ?_ rfl)) (by repeat (first | exact hR4 | refine SR.i ?_ rfl | refine SR.a ?_ rfl)) hX9
        have hf9 := frR_kr hX9
        have k6_9 : 0 < gI τ9 36 := by rw [hX9.2.2.1.1 36 rfl]; exact k6_4
        have k9_9 : nT (gI τ2 49) < nT (gI τ9 49) := by rw [hX9.2.2.1.1 49 rfl]; exact k9_4
        have hZ9 : BZ N τ9 (cdM N (snM z) n (accM (thM (beM 56 (lvN n) (coM 20 0 0 (zAt z.1) z))))) F F := BZ.cd (by repeat (first | exact hZ4 | refine BZ.i ?_ rfl | refine BZ.a ?_ rfl)) hX9.2.2 hL9 hPx9
        have hK9 : KtR τ9 (cdM N (snM z) n (accM (thM (beM 56 (lvN n) (coM 20 0 0 (zAt z.1) z))))) := KtR.cd (by repeat (first | exact hK4 | refine KtR.i ?_ | refine KtR.a ?_ (by decide))) hX9.2.2
        have hs9 : (cdM N (snM z) n (accM (thM (beM 56 (lvN n) (coM 20 0 0 (zAt z.1) z))))).1 = (cndY n (accY z.1)) := lf_cd.trans (congrArg (cndY n) hs4)
        have hPg9 : PgZ z (thM (beM 56 (lvN n) (coM 20 0 0 (zAt z.1) z))) (cdM N (snM z) n (accM (thM (beM 56 (lvN n) (coM 20 0 0 (zAt z.1) z))))) := PgZ.cd hPg4
        have k4_9 : (cdM N (snM z) n (accM (thM (beM 56 (lvN n) (coM 20 0 0 (zAt z.1) z))))).2.2.2 = (thM (beM 56 (lvN n) (coM 20 0 0 (zAt z.1) z))).2.2.2 := (k4_cd.trans k4_4)
        have r60_9 : aI τ9 60 = _ := (hX9.2.2.1.2 60 rfl).trans r60_4
        refine ⟨fun h12 => ?_, fun h12 => absurd h12 (by decide)⟩
        clear h12
        refine hB _ _ _ _ _ (fun m13 hm13 => ?_)
        dsimp only [ugo, uwp, ust, uct, rfd, BifOf, Nat.beq, lv_args, rlk, rs1, rs2, rdl, rky, rcd, rno, rsw, Value.category, List.filter, List.take, List.drop, List.reverse, List.reverseAux, List.cons_append, List.nil_append, Option.toList, Int.toNat, Int.reduceToNat, if_pos, if_neg, reduceIte, ↓reduceIte, Nat.reduceAdd, Nat.reduceEqDiff, Nat.reduceBEq, beq_self_eq_true, Bool.not_true, Bool.not_false, Bool.and_true, Bool.and_false, Bool.true_and, Bool.false_and, gI_sI, gI_sL, gI_sA, gI_sM, gL_sI, gL_sL, gL_sA, gL_sM, aI_sI, aI_sL, aI_sA, aI_sM, aL_sI, aL_sL, aL_sA, aL_sM, BifOf_0, BifOf_28, BifOf_35, BifOf_37, oi_0, oi_2, oi_20, oi_23]; try dsimp only
        refine ⟨trivial, fun w14 τ14 hq14 => ?_⟩
        obtain ⟨hq14, hL14⟩ := hq14
        obtain ⟨rfl, hEz14⟩ := hq14 trivial
        have hE14 := hEz14.1
        have hR14 := SR.em (e_ := 0) (s := (cndY n (accY z.1))) (n := n) (by repeat (first | exact hR9 | refine SR.i ?_ rfl | refine SR.a ?_ rfl)) hE14
        have hf14 := frR_em hE14
        have hg14 := FgR.em (e_ := 0) (by repeat (first | exact hg9 | refine FgR.i ?_ rfl | refine FgR.a ?_ rfl)) (s := (cndY n (accY z.1))) (n := n) (by repeat (first | exact hR9 | refine SR.i ?_ rfl | refine SR.a ?_ rfl)) hE14
        dsimp only [Option.toList, List.cons_append, List.nil_append, Nat.beq, gI_sI, gI_sL, gI_sA, gI_sM, gL_sI, gL_sL, gL_sA, gL_sM, aI_sI, aI_sL, aI_sA, aI_sM, aL_sI, aL_sL, aL_sA, aL_sM]
        have k6_14 : 0 < gI τ14 36 := by rw [hE14.1 36 (by decide)]; exact k6_9
        have k9_14 : nT (gI τ2 49) < nT (gI τ14 49) := by rw [hE14.1 49 (by decide)]; exact k9_9
        have hZ14 : BZ N τ14 (cxM 23 (tnM z : Int) 0 (zAt z.1) (cdM N (snM z) n (accM (thM (beM 56 (lvN n) (coM 20 0 0 (zAt z.1) z)))))) F F := BZ.co (x := ((23 : Int), ((tnM z : Int) : Int), (0 : Int), ((zAt z.1) : Int), (((xnM (cdM N (snM z) n (accM (thM (beM 56 (lvN n) (coM 20 0 0 (zAt z.1) z))))) : Int) - 1) : Int))) (by repeat (first | exact hZ9 | refine BZ.i ?_ rfl | refine BZ.a ?_ rfl)) hEz14 hL14 rfl (hkI) rfl (hC) (show ¬ (23 : Int) = 51 by decide)
        have hK14 : KtR τ14 (cxM 23 (tnM z : Int) 0 (zAt z.1) (cdM N (snM z) n (accM (thM (beM 56 (lvN n) (coM 20 0 0 (zAt z.1) z)))))) := KtR.ek (x := ((23 : Int), ((tnM z : Int) : Int), (0 : Int), ((zAt z.1) : Int), (((xnM (cdM N (snM z) n (accM (thM (beM 56 (lvN n) (coM 20 0 0 (zAt z.1) z))))) : Int) - 1) : Int))) (k := (tnM z)) (by repeat (first | exact hK9 | refine KtR.i ?_ | refine KtR.a ?_ (by decide))) (emK hEz14) (by have q9 : tnM (cdM N (snM z) n (accM (thM (beM 56 (lvN n) (coM 20 0 0 (zAt z.1) z))))) = tnM (thM (beM 56 (lvN n) (coM 20 0 0 (zAt z.1) z))) := congrArg (fun y => y.2.2.2) (show (cdM N (snM z) n (accM (thM (beM 56 (lvN n) (coM 20 0 0 (zAt z.1) z))))).2.2.2 = (thM (beM 56 (lvN n) (coM 20 0 0 (zAt z.1) z))).2.2.2 from k4_9); rw [q9]; exact Nat.lt_succ_self _) rfl (show ¬ (23 : Int) = 50 ∧ ¬ (23 : Int) = 41 ∧ ¬ (23 : Int) = 51 by decide) (show ∀ a, a < 60 → sqZ a 23 = false by decide)
        have hs14 : (cxM 23 (tnM z : Int) 0 (zAt z.1) (cdM N (snM z) n (accM (thM (beM 56 (lvN n) (coM 20 0 0 (zAt z.1) z)))))).1 = (cndY n (accY z.1)) := hs9
        have hPg14 : PgZ z (thM (beM 56 (lvN n) (coM 20 0 0 (zAt z.1) z))) (cxM 23 (tnM z : Int) 0 (zAt z.1) (cdM N (snM z) n (accM (thM (beM 56 (lvN n) (coM 20 0 0 (zAt z.1) z)))))) := PgZ.co hPg9
        have k4_14 : (cxM 23 (tnM z : Int) 0 (zAt z.1) (cdM N (snM z) n (accM (thM (beM 56 (lvN n) (coM 20 0 0 (zAt z.1) z)))))).2.2.2 = (thM (beM 56 (lvN n) (coM 20 0 0 (zAt z.1) z))).2.2.2 := k4_9
        have r60_14 : aI τ14 60 = _ := (hE14.2.2.2.2.1 60 (by omega)).trans r60_9
        refine ⟨trivial, fun w15 τ15 hq15 => ?_⟩
        obtain ⟨hq15, hL15⟩ := hq15
        have hq15 := hq15 (cndY n (accY z.1)) n ⟨(by repeat (first | exact hR14 | refine SR.i ?_ rfl | refine SR.a ?_ rfl)), (by repeat (first | exact hg14 | refine FgR.i ?_ rfl | refine FgR.a ?_ rfl)), k9_14, by decide, (iff_of_false (by decide) (by (try simp only [frR_i, frR_a, ne_eq, Nat.reduceEqDiff, not_false_eq_true, hf14, hf9, hf4, hf3, hf2]); exact hne)), k6_14, (fun q => absurd q (by decide))⟩
        rcases hq15 with ⟨rfl, hn15, hF15⟩ | ⟨rfl, hn15, hR15, hg15, hf15, hOp15⟩
        · dsimp only [Option.toList, List.cons_append, List.nil_append, Nat.beq, gI_sI, gI_sL, gI_sA, gI_sM, gL_sI, gL_sL, gL_sA, gL_sM, aI_sI, aI_sL, aI_sA, aI_sM, aL_sI, aL_sL, aL_sA, aL_sM]
          unfold Qv_ifOfZ
          try dsimp only
          refine StZ.o hPhi ?_
          rw [st_if' hnn.2.1 hcd, st_0 hn15]
          refine StQ.f hF15 ?_
          exact (by repeat (first | with_reducible exact GpY.rf | with_reducible refine GpY.tr ?_ (gd_fo _) | with_reducible refine GpY.tr ?_ (gd_ef _) | with_reducible refine GpY.tr ?_ (gd_cf _) | with_reducible refine GpY.tr ?_ (gd_wt _) | with_reducible refine GpY.tr ?_ (gd_xp _) | with_reducible refine GpY.tr ?_ (gd_acc _) | with_reducible refine GpY.tr ?_ (gd_rai _) | with_reducible refine GpY.tr ?_ (gd_e _) | with_reducible refine GpY.tr ?_ (gd_o _) | with_reducible refine GpY.tr ?_ (gd_c _) | with_reducible refine GpY.tr ?_ (gd_op _) | with_reducible refine GpY.tr ?_ (gd_clp gd_e _ _) | with_reducible refine GpY.tr ?_ (gd_tl _) | with_reducible refine GpY.tr ?_ (gd_sf _ _ _) | with_reducible refine GpY.tr ?_ (gd_cl _) | with_reducible refine GpY.tr ?_ (gd_pc _) | with_reducible refine GpY.tr ?_ (gd_st _) | with_reducible refine GpY.tr ?_ (gd_rw _) | with_reducible refine GpY.tr ?_ (gd_typ _) | with_reducible refine GpY.tr ?_ (gd_dcl _) | with_reducible refine GpY.tr ?_ (gd_va2 _) | with_reducible refine GpY.tr ?_ (gd_cnd _) | with_reducible refine GpY.tr ?_ (gd_tr1 _) | with_reducible refine GpY.tr ?_ (gd_tr2 (fun _ => gd_rw) _) | with_reducible refine GpY.tr ?_ (gd_tr3 (fun _ => gd_rw) _) | with_reducible refine GpY.tr ?_ (gd_fo1 _) | with_reducible refine GpY.tr ?_ (gd_fo2 _) | with_reducible refine GpY.tr ?_ (gd_fo3 _) | with_reducible refine GpY.tr ?_ (gd_fex _) | with_reducible refine GpY.tr ?_ (pg_var.1) | with_reducible refine GpY.tr ?_ (pg_cas.1) | exact GpY.rf))
        · dsimp only [Option.toList, List.cons_append, List.nil_append, Nat.beq, gI_sI, gI_sL, gI_sA, gI_sM, gL_sI, gL_sL, gL_sA, gL_sM, aI_sI, aI_sL, aI_sA, aI_sM, aL_sI, aL_sL, aL_sA, aL_sM]
          have hf15 : frR τ15 = (2 : Int) :: _ := hf15
          have hfi : fiS (cxM 23 (tnM z : Int) 0 (zAt z.1) (cdM N (snM z) n (accM (thM (beM 56 (lvN n) (coM 20 0 0 (zAt z.1) z)))))) (snM z) = zAt z.1 := PgZ.fh hPg14 rfl rfl
          have hZf := BZ.fr (k := 2) (kd := 56) (lv := lvN n) (x := []) hZ hZ14 ((SgZ.e rfl).tr hPg14.1) ((congrArg Prod.fst (show (cxM 23 (tnM z : Int) 0 (zAt z.1) (cdM N (snM z) n (accM (thM (beM 56 (lvN n) (coM 20 0 0 (zAt z.1) z)))))).2.2.2 = (thM (beM 56 (lvN n) (coM 20 0 0 (zAt z.1) z))).2.2.2 from k4_14)).trans rfl) ((congrArg (fun y => y.2.2.2) (show (cxM 23 (tnM z : Int) 0 (zAt z.1) (cdM N (snM z) n (accM (thM (beM 56 (lvN n) (coM 20 0 0 (zAt z.1) z)))))).2.2.2 = (thM (beM 56 (lvN n) (coM 20 0 0 (zAt z.1) z))).2.2.2 from k4_14)).trans rfl) hu (by decide) rfl (fun q => absurd (show (2 : Int) = 7 from q) (by decide))
          have hZ15 : BZ N τ15 (arM (snM z) (cxM 23 (tnM z : Int) 0 (zAt z.1) (cdM N (snM z) n (accM (thM (beM 56 (lvN n) (coM 20 0 0 (zAt z.1) z))))))) ((frB 2 z []) :: F) ((frB 2 z []) :: F) := BZ.op (a := (frB 2 z [])) (F := F) (z := (arM (snM z) (cxM 23 (tnM z : Int) 0 (zAt z.1) (cdM N (snM z) n (accM (thM (beM 56 (lvN n) (coM 20 0 0 (zAt z.1) z)))))))) (by repeat (first | exact hZf | refine BZ.i ?_ rfl | refine BZ.a ?_ rfl)) hOp15 hL15 rfl hkI (fun _ => ⟨hstI, (show itN (cxM 23 (tnM z : Int) 0 (zAt z.1) (cdM N (snM z) n (accM (thM (beM 56 (lvN n) (coM 20 0 0 (zAt z.1) z)))))).2.1 (cnM z) = some (.inr (20, 0, 0, fiS (cxM 23 (tnM z : Int) 0 (zAt z.1) (cdM N (snM z) n (accM (thM (beM 56 (lvN n) (coM 20 0 0 (zAt z.1) z)))))) (snM z), -1)) by rw [hfi]; exact hPg14.st), (show (aI _ 60 (tnM z)).toInt = fiS (cxM 23 (tnM z : Int) 0 (zAt z.1) (cdM N (snM z) n (accM (thM (beM 56 (lvN n) (coM 20 0 0 (zAt z.1) z)))))) (snM z) by rw [hfi]; exact (congrArg Int32.toInt (congrFun r60_14 _)).trans r60_3)⟩) ⟨(fun q => absurd (show (2 : Int) = 7 from q) (by decide)), (fun q => absurd (show (2 : Int) = 0 from q) (by decide))⟩ (fun q => absurd (show (2 : Int) = 9 from q) (by decide))
          have hK15 : KtR τ15 (arM (snM z) (cxM 23 (tnM z : Int) 0 (zAt z.1) (cdM N (snM z) n (accM (thM (beM 56 (lvN n) (coM 20 0 0 (zAt z.1) z))))))) := KtR.z (by repeat (first | exact hK14 | refine KtR.i ?_ | refine KtR.a ?_ (by decide))) rfl rfl (fun a h1 h2 => hOp15.2.2.2.1 a (by omega))
          have hs15 : (arM (snM z) (cxM 23 (tnM z : Int) 0 (zAt z.1) (cdM N (snM z) n (accM (thM (beM 56 (lvN n) (coM 20 0 0 (zAt z.1) z))))))).1 = (cndY n (accY z.1)) := hs14
          have hPg15 : PgZ z (thM (beM 56 (lvN n) (coM 20 0 0 (zAt z.1) z))) (arM (snM z) (cxM 23 (tnM z : Int) 0 (zAt z.1) (cdM N (snM z) n (accM (thM (beM 56 (lvN n) (coM 20 0 0 (zAt z.1) z))))))) := PgZ.e hPg14 rfl rfl
          unfold Qv_ifOfZ
          try dsimp only
          exact Or.inr ⟨rfl, (arM (snM z) (cxM 23 (tnM z : Int) 0 (zAt z.1) (cdM N (snM z) n (accM (thM (beM 56 (lvN n) (coM 20 0 0 (zAt z.1) z))))))), (n - 1), (frB 2 z [] :: F), (by rw [show (arM (snM z) (cxM 23 (tnM z : Int) 0 (zAt z.1) (cdM N (snM z) n (accM (thM (beM 56 (lvN n) (coM 20 0 0 (zAt z.1) z))))))).1 = (cndY n (accY z.1)) from hs15]; exact (by repeat (first | exact hR15 | refine SR.i ?_ rfl | refine SR.a ?_ rfl))), FgR.ny (by repeat (first | exact hg15 | refine FgR.i ?_ rfl | refine FgR.a ?_ rfl)) hf15 (by decide) (Or.inl rfl), (by repeat (first | exact hZ15 | refine BZ.i ?_ rfl | refine BZ.a ?_ rfl)), (by repeat (first | exact hK15 | refine KtR.i ?_ | refine KtR.a ?_ (by decide))), hw, (fun q => absurd (show (2 : Int) = 7 from q) (by decide)), (by rw [show (arM (snM z) (cxM 23 (tnM z : Int) 0 (zAt z.1) (cdM N (snM z) n (accM (thM (beM 56 (lvN n) (coM 20 0 0 (zAt z.1) z))))))).1 = (cndY n (accY z.1)) from hs15]; exact GpY.a1 (by repeat (first | with_reducible exact GpY.rf | with_reducible refine GpY.tr ?_ (gd_fo _) | with_reducible refine GpY.tr ?_ (gd_ef _) | with_reducible refine GpY.tr ?_ (gd_cf _) | with_reducible refine GpY.tr ?_ (gd_wt _) | with_reducible refine GpY.tr ?_ (gd_xp _) | with_reducible refine GpY.tr ?_ (gd_acc _) | with_reducible refine GpY.tr ?_ (gd_rai _) | with_reducible refine GpY.tr ?_ (gd_e _) | with_reducible refine GpY.tr ?_ (gd_o _) | with_reducible refine GpY.tr ?_ (gd_c _) | with_reducible refine GpY.tr ?_ (gd_op _) | with_reducible refine GpY.tr ?_ (gd_clp gd_e _ _) | with_reducible refine GpY.tr ?_ (gd_tl _) | with_reducible refine GpY.tr ?_ (gd_sf _ _ _) | with_reducible refine GpY.tr ?_ (gd_cl _) | with_reducible refine GpY.tr ?_ (gd_pc _) | with_reducible refine GpY.tr ?_ (gd_st _) | with_reducible refine GpY.tr ?_ (gd_rw _) | with_reducible refine GpY.tr ?_ (gd_typ _) | with_reducible refine GpY.tr ?_ (gd_dcl _) | with_reducible refine GpY.tr ?_ (gd_va2 _) | with_reducible refine GpY.tr ?_ (gd_cnd _) | with_reducible refine GpY.tr ?_ (gd_tr1 _) | with_reducible refine GpY.tr ?_ (gd_tr2 (fun _ => gd_rw) _) | with_reducible refine GpY.tr ?_ (gd_tr3 (fun _ => gd_rw) _) | with_reducible refine GpY.tr ?_ (gd_fo1 _) | with_reducible refine GpY.tr ?_ (gd_fo2 _) | with_reducible refine GpY.tr ?_ (gd_fo3 _) | with_reducible refine GpY.tr ?_ (gd_fex _) | with_reducible refine GpY.tr ?_ (pg_var.1) | with_reducible refine GpY.tr ?_ (pg_cas.1) | exact GpY.rf)) hR.1.a5.2 ha1), (pc_stM (by simp [frB])).trans (sm_if' hnn.2.1 hcd).symm⟩
  next => exact hP.elim
theorem w_ifOfZ : UMet 53 (fun _ _ => True) Qw_ifOfZ := fun A1 σ _ w τ h N z n F hP => v_ifOfZ N z n F A1 σ hP w τ h
def Pv_whileOfZ (N : Int → Int) (z : ZS) (n : Nat) (F : List FrZ) : UP1 := fun A1 σ => match A1 with
  | [] => SR σ z.1 n ∧ FgR σ 0 ∧ frR σ ≠ [] ∧ BZ N σ z F F ∧ KtR σ z ∧ WfF F ∧ LuZ z F ∧ 1 ≤ zAt z.1 ∧ codY z.1 = 58
  | _ => False
def Qv_whileOfZ (N : Int → Int) (z : ZS) (n : Nat) (F : List FrZ) : UQ1 := fun A1 σ w τ => match A1 with
  | [] => StZ N τ (sfM N F n (stM N n z)) w
  | _ => False
def Qw_whileOfZ : UQ1 := fun A1 σ w τ => ∀ (N : Int → Int) (z : ZS) (n : Nat) (F : List FrZ), Pv_whileOfZ N z n F A1 σ → Qv_whileOfZ N z n F A1 σ w τ
set_option maxRecDepth 100000 in
set_option maxHeartbeats 4000000 in
theorem v_whileOfZ (N : Int → Int) (z : ZS) (n : Nat) (F : List FrZ) : UMet 54 (Pv_whileOfZ N z n F) (Qv_whileOfZ N z n F) := by
  refine UMet.by BwhileOf [(52, (fun _ _ => True), (LqR Qw_conditionZ)), (20, (fun _ _ => True), (LqR Qw_emitZ)), (36, (fun _ _ => True), (LqR Qw_openZ)), (17, (fun _ _ => True), (LqR Qw_take)), (35, (fun _ _ => True), (LqR Qw_thingZ))] rfl (ucc (UMet.aL ck_P rfl w_conditionZ) (ucc (UMet.aL ck_P rfl w_emitZ) (ucc (UMet.aL ck_P rfl w_openZ) (ucc (UMet.aL ck_P rfl w_take) (ucc (UMet.aL ck_P rfl w_thingZ) uc0))))) ?_
  intro A1 σ hP K hB hW
  unfold Pv_whileOfZ at hP
  split at hP
  next =>
    obtain ⟨hR, hg, hne, hZ, hK, hw, hu, ha1, hcd⟩ := hP
    have hnn := hR.2.1
    have hm6 := hR.2.2.1.2.2.resolve_left hne
    have hC : (gI σ 14).toInt = zAt z.1 := hR.1.2.1.1.symm
    have hPhi := lf_sst (n := n) hZ hw
    intro n0_
    refine hB _ _ _ _ _ (fun m1 hm1 => ?_)
    dsimp only [ugo, uwp, ust, uct, rfd, BwhileOf, Nat.beq, lv_args, rlk, rs1, rs2, rdl, rky, rcd, rno, rsw, Value.category, List.filter, List.take, List.drop, List.reverse, List.reverseAux, List.cons_append, List.nil_append, Option.toList, Int.toNat, Int.reduceToNat, if_pos, if_neg, reduceIte, ↓reduceIte, Nat.reduceAdd, Nat.reduceEqDiff, Nat.reduceBEq, beq_self_eq_true, Bool.not_true, Bool.not_false, Bool.and_true, Bool.and_false, Bool.true_and, Bool.false_and, gI_sI, gI_sL, gI_sA, gI_sM, gL_sI, gL_sL, gL_sA, gL_sM, aI_sI, aI_sL, aI_sA, aI_sM, aL_sI, aL_sL, aL_sA, aL_sM, BwhileOf_0, BwhileOf_37, BwhileOf_44, BwhileOf_46, oi_0, oi_20, oi_26, oi_27, oi_4]; try dsimp only
    refine ⟨trivial, fun w2 τ2 hq2 => ?_⟩
    obtain ⟨hq2, hL2⟩ := hq2
    obtain ⟨rfl, hEz2⟩ := hq2 trivial
    have hE2 := hEz2.1
    have hR2 := SR.em (e_ := 0) (s := z.1) (n := n) (by repeat (first | exact hR | refine SR.i ?_ rfl | refine SR.a ?_ rfl)) hE2
    have hf2 := frR_em hE2
    have hg2 := FgR.em (e_ := 0) (by repeat (first | exact hg | refine FgR.i ?_ rfl | refine FgR.a ?_ rfl)) (s := z.1) (n := n) (by repeat (first | exact hR | refine SR.i ?_ rfl | refine SR.a ?_ rfl)) hE2
    dsimp only [Option.toList, List.cons_append, List.nil_append, Nat.beq, gI_sI, gI_sL, gI_sA, gI_sM, gL_sI, gL_sL, gL_sA, gL_sM, aI_sI, aI_sL, aI_sA, aI_sM, aL_sI, aL_sL, aL_sA, aL_sM]
    have k6_2 : 0 < gI τ2 36 := by rw [hE2.1 36 (by decide)]; exact hm6
    have hstI : (gI σ 18).toInt = (cnM z : Int) := em18 (N := N) (F := F) (K := F) hEz2 (by repeat (first | exact hZ | refine BZ.i ?_ rfl | refine BZ.a ?_ rfl))
    have hZ2 : BZ N τ2 (coM 20 0 0 (zAt z.1) z) F F := BZ.co (x := ((20 : Int), (0 : Int), (0 : Int), ((zAt z.1) : Int), ((-1) : Int))) (by repeat (first | exact hZ | refine BZ.i ?_ rfl | refine BZ.a ?_ rfl)) hEz2 hL2 rfl (rfl) rfl (hC) (show ¬ (20 : Int) = 51 by decide)
    have hK2 : KtR τ2 (coM 20 0 0 (zAt z.1) z) := KtR.en (x := ((20 : Int), (0 : Int), (0 : Int), ((zAt z.1) : Int), ((-1) : Int))) (by repeat (first | exact hK | refine KtR.i ?_ | refine KtR.a ?_ (by decide))) (emK hEz2) (show thO 20 = false by decide)
    have hs2 : (coM 20 0 0 (zAt z.1) z).1 = z.1 := rfl
    refine ⟨trivial, fun w3 τ3 hq3 => ?_⟩
    obtain ⟨hq3, hL3⟩ := hq3
    obtain ⟨rfl, hTz3⟩ := hq3 trivial
    have hT3 := hTz3.1
    have hR3 := SR.th (e_ := 0) (s := z.1) (n := n) (by repeat (first | exact hR2 | refine SR.i ?_ rfl | refine SR.a ?_ rfl)) hT3
    have hg3 := FgR.th (e_ := 0) (by repeat (first | exact hg2 | refine FgR.i ?_ rfl | refine FgR.a ?_ rfl)) (s := z.1) (n := n) (by repeat (first | exact hR2 | refine SR.i ?_ rfl | refine SR.a ?_ rfl)) hT3
    have hf3 := frR_th hT3
    have hk3 := th49 hT3
    have k6_3 : 0 < gI τ3 36 := by rw [hT3.1 36 (by decide)]; exact k6_2
    have k9_3 : nT (gI τ2 49) < nT (gI τ3 49) := kthx hk3
    dsimp only [Option.toList, List.cons_append, List.nil_append, Nat.beq, gI_sI, gI_sL, gI_sA, gI_sM, gL_sI, gL_sL, gL_sA, gL_sM, aI_sI, aI_sL, aI_sA, aI_sM, aL_sI, aL_sL, aL_sA, aL_sM]
    have hkI := BZ.k49 hZ2
    have hkI : (gI τ2 49).toInt = (tnM z : Int) := hkI
    have hn49 : nT (gI τ2 49) = tnM z := hZ2.1.2.1.1
    have r60_3 : (aI τ3 60 (tnM z)).toInt = zAt z.1 := by rw [hTz3.2.2.1, hn49, upd_eq]; exact hC
    have hZ3 : BZ N τ3 (thM (beM 58 (lvN n) (coM 20 0 0 (zAt z.1) z))) F F := BZ.th (BZ.be (k := 58) (lv := lvN n) hZ2) hTz3 hL3
    have hK3 : KtR τ3 (thM (beM 58 (lvN n) (coM 20 0 0 (zAt z.1) z))) := KtR.th (z := beM 58 (lvN n) (coM 20 0 0 (zAt z.1) z)) (KtR.gh hK2 rfl rfl) hTz3 hZ2.1.2.1.1 hZ2.c18 (by have q1 := hE2.2.1; have q2 := hE2.2.2.2.2.2; lia)
    have hs3 : (thM (beM 58 (lvN n) (coM 20 0 0 (zAt z.1) z))).1 = z.1 := hs2
    have hPg3 : PgZ z (thM (beM 58 (lvN n) (coM 20 0 0 (zAt z.1) z))) (thM (beM 58 (lvN n) (coM 20 0 0 (zAt z.1) z))) := PgZ.rf rfl
    refine ⟨trivial, fun w4 τ4 hq4 => ?_⟩
    obtain ⟨hq4, hL4⟩ := hq4
    obtain ⟨rfl, hEz4⟩ := hq4 trivial
    have hE4 := hEz4.1
    have hR4 := SR.em (e_ := 0) (s := z.1) (n := n) (by repeat (first | exact hR3 | refine SR.i ?_ rfl | refine SR.a ?_ rfl)) hE4
    have hf4 := frR_em hE4
    have hg4 := FgR.em (e_ := 0) (by repeat (first | exact hg3 | refine FgR.i ?_ rfl | refine FgR.a ?_ rfl)) (s := z.1) (n := n) (by repeat (first | exact hR3 | refine SR.i ?_ rfl | refine SR.a ?_ rfl)) hE4
    dsimp only [Option.toList, List.cons_append, List.nil_append, Nat.beq, gI_sI, gI_sL, gI_sA, gI_sM, gL_sI, gL_sL, gL_sA, gL_sM, aI_sI, aI_sL, aI_sA, aI_sM, aL_sI, aL_sL, aL_sA, aL_sM]
    have k6_4 : 0 < gI τ4 36 := by rw [hE4.1 36 (by decide)]; exact k6_3
    have k9_4 : nT (gI τ2 49) < nT (gI τ4 49) := by rw [hE4.1 49 (by decide)]; exact k9_3
    have hZ4 : BZ N τ4 (coM 26 (tnM z : Int) 0 (zAt z.1) (thM (beM 58 (lvN n) (coM 20 0 0 (zAt z.1) z)))) F F := BZ.co (x := ((26 : Int), ((tnM z : Int) : Int), (0 : Int), ((zAt z.1) : Int), ((-1) : Int))) (by repeat (first | exact hZ3 | refine BZ.i ?_ rfl | refine BZ.a ?_ rfl)) hEz4 hL4 rfl (hkI) rfl (hC) (show ¬ (26 : Int) = 51 by decide)
    have hK4 : KtR τ4 (coM 26 (tnM z : Int) 0 (zAt z.1) (thM (beM 58 (lvN n) (coM 20 0 0 (zAt z.1) z)))) := KtR.ek (x := ((26 : Int), ((tnM z : Int) : Int), (0 : Int), ((zAt z.1) : Int), ((-1) : Int))) (k := (tnM z)) (by repeat (first | exact hK3 | refine KtR.i ?_ | refine KtR.a ?_ (by decide))) (emK hEz4) (by have q9 : tnM (thM (beM 58 (lvN n) (coM 20 0 0 (zAt z.1) z))) = tnM (thM (beM 58 (lvN n) (coM 20 0 0 (zAt z.1) z))) := congrArg (fun y => y.2.2.2) (show (thM (beM 58 (lvN n) (coM 20 0 0 (zAt z.1) z))).2.2.2 = (thM (beM 58 (lvN n) (coM 20 0 0 (zAt z.1) z))).2.2.2 from rfl); rw [q9]; exact Nat.lt_succ_self _) rfl (show ¬ (26 : Int) = 50 ∧ ¬ (26 : Int) = 41 ∧ ¬ (26 : Int) = 51 by decide) (show ∀ a, a < 60 → sqZ a 26 = false by decide)
    have hs4 : (coM 26 (tnM z : Int) 0 (zAt z.1) (thM (beM 58 (lvN n) (coM 20 0 0 (zAt z.1) z)))).1 = z.1 := hs3
    have hPg4 : PgZ z (thM (beM 58 (lvN n) (coM 20 0 0 (zAt z.1) z))) (coM 26 (tnM z : Int) 0 (zAt z.1) (thM (beM 58 (lvN n) (coM 20 0 0 (zAt z.1) z)))) := PgZ.co hPg3
    have k4_4 : (coM 26 (tnM z : Int) 0 (zAt z.1) (thM (beM 58 (lvN n) (coM 20 0 0 (zAt z.1) z)))).2.2.2 = (thM (beM 58 (lvN n) (coM 20 0 0 (zAt z.1) z))).2.2.2 := rfl
    have r60_4 : aI τ4 60 = _ := (hE4.2.2.2.2.1 60 (by omega)).trans rfl
    refine ⟨trivial, fun w5 τ5 hq5 => ?_⟩
    obtain ⟨hq5, hL5⟩ := hq5
    have hq5 := hq5 _ z.1 n ⟨(SR.x (e_ := 0) (by repeat (first | exact hR4 | refine SR.i ?_ rfl | refine SR.a ?_ rfl))), by omega, by omega⟩
    rcases hq5 with ⟨rfl, hF5⟩ | ⟨rfl, hX5, hz5, hS5⟩
    · dsimp only [Option.toList, List.cons_append, List.nil_append, Nat.beq, gI_sI, gI_sL, gI_sA, gI_sM, gL_sI, gL_sL, gL_sA, gL_sM, aI_sI, aI_sL, aI_sA, aI_sM, aL_sI, aL_sL, aL_sA, aL_sM]
      refine ⟨fun h6 => ?_, fun h6 => absurd h6 (by decide)⟩
      clear h6
      refine hB _ _ _ _ _ (fun m7 hm7 => ?_)
      dsimp only [ugo, uwp, ust, uct, rfd, BwhileOf, Nat.beq, lv_args, rlk, rs1, rs2, rdl, rky, rcd, rno, rsw, Value.category, List.filter, List.take, List.drop, List.reverse, List.reverseAux, List.cons_append, List.nil_append, Option.toList, Int.toNat, Int.reduceToNat, if_pos, if_neg, reduceIte, ↓reduceIte, Nat.reduceAdd, Nat.reduceEqDiff, Nat.reduceBEq, beq_self_eq_true, Bool.not_true, Bool.not_false, Bool.and_true, Bool.and_false, Bool.true_and, Bool.false_and, gI_sI, gI_sL, gI_sA, gI_sM, gL_sI, gL_sL, gL_sA, gL_sM, aI_sI, aI_sL, aI_sA, aI_sM, aL_sI, aL_sL, aL_sA, aL_sM, BwhileOf_0, BwhileOf_37, BwhileOf_44, BwhileOf_46, oi_0, oi_20, oi_26, oi_27, oi_4]; try dsimp only
      unfold Qv_whileOfZ
      try dsimp only
      refine StZ.o hPhi ?_
      rw [st_whi' hnn.2.1 hcd]
      refine StQ.f hF5 ?_
      exact (by repeat (first | with_reducible exact GpY.rf | with_reducible refine GpY.tr ?_ (gd_fo _) | with_reducible refine GpY.tr ?_ (gd_ef _) | with_reducible refine GpY.tr ?_ (gd_cf _) | with_reducible refine GpY.tr ?_ (gd_wt _) | with_reducible refine GpY.tr ?_ (gd_xp _) | with_reducible refine GpY.tr ?_ (gd_acc _) | with_reducible refine GpY.tr ?_ (gd_rai _) | with_reducible refine GpY.tr ?_ (gd_e _) | with_reducible refine GpY.tr ?_ (gd_o _) | with_reducible refine GpY.tr ?_ (gd_c _) | with_reducible refine GpY.tr ?_ (gd_op _) | with_reducible refine GpY.tr ?_ (gd_clp gd_e _ _) | with_reducible refine GpY.tr ?_ (gd_tl _) | with_reducible refine GpY.tr ?_ (gd_sf _ _ _) | with_reducible refine GpY.tr ?_ (gd_cl _) | with_reducible refine GpY.tr ?_ (gd_pc _) | with_reducible refine GpY.tr ?_ (gd_st _) | with_reducible refine GpY.tr ?_ (gd_rw _) | with_reducible refine GpY.tr ?_ (gd_typ _) | with_reducible refine GpY.tr ?_ (gd_dcl _) | with_reducible refine GpY.tr ?_ (gd_va2 _) | with_reducible refine GpY.tr ?_ (gd_cnd _) | with_reducible refine GpY.tr ?_ (gd_tr1 _) | with_reducible refine GpY.tr ?_ (gd_tr2 (fun _ => gd_rw) _) | with_reducible refine GpY.tr ?_ (gd_tr3 (fun _ => gd_rw) _) | with_reducible refine GpY.tr ?_ (gd_fo1 _) | with_reducible refine GpY.tr ?_ (gd_fo2 _) | with_reducible refine GpY.tr ?_ (gd_fo3 _) | with_reducible refine GpY.tr ?_ (gd_fex _) | with_reducible refine GpY.tr ?_ (pg_var.1) | with_reducible refine GpY.tr ?_ (pg_cas.1) | exact GpY.rf))
    · dsimp only [Option.toList, List.cons_append, List.nil_append, Nat.beq, gI_sI, gI_sL, gI_sA, gI_sM, gL_sI, gL_sL, gL_sA, gL_sM, aI_sI, aI_sL, aI_sA, aI_sM, aL_sI, aL_sL, aL_sA, aL_sM]
      have hR5 := SR.kr (e_ := 0) (by repeat (first | exact hR4 | refine SR.i ?_ rfl | refine SR.a ?_ rfl)) hX5 acc2
      have hg5 := FgR.kr (e_ := 0) (s := z.1) (n := n) (by repeat (first | exact hg4 | refine FgR.i ?_ rfl | refine FgR.a ?_ rfl)) (by repeat (first | exact hR4 | refine SR.i ?_ rfl | refine SR.a ?_ rfl)) hX5
      have hf5 := frR_kr hX5
      have k6_5 : 0 < gI τ5 36 := by rw [hX5.2.2.1.1 36 rfl]; exact k6_4
      have k9_5 : nT (gI τ2 49) < nT (gI τ5 49) := by rw [hX5.2.2.1.1 49 rfl]; exact k9_4
      have hZ5 : BZ N τ5 (accM (coM 26 (tnM z : Int) 0 (zAt z.1) (thM (beM 58 (lvN n) (coM 20 0 0 (zAt z.1) z))))) F F := BZ.tk (by repeat (first | exact hZ4 | refine BZ.i ?_ rfl | refine BZ.a ?_ rfl)) hS5 hL5
      have hK5 : KtR τ5 (accM (coM 26 (tnM z : Int) 0 (zAt z.1) (thM (beM 58 (lvN n) (coM 20 0 0 (zAt z.1) z))))) := KtR.tk (by repeat (first | exact hK4 | refine KtR.i ?_ | refine KtR.a ?_ (by decide))) hS5
      have hs5 : (accM (coM 26 (tnM z : Int) 0 (zAt z.1) (thM (beM 58 (lvN n) (coM 20 0 0 (zAt z.1) z))))).1 = (accY z.1) := congrArg accY hs4
      have hPg5 : PgZ z (thM (beM 58 (lvN n) (coM 20 0 0 (zAt z.1) z))) (accM (coM 26 (tnM z : Int) 0 (zAt z.1) (thM (beM 58 (lvN n) (coM 20 0 0 (zAt z.1) z))))) := PgZ.e hPg4 rfl rfl
      have k4_5 : (accM (coM 26 (tnM z : Int) 0 (zAt z.1) (thM (beM 58 (lvN n) (coM 20 0 0 (zAt z.1) z))))).2.2.2 = (thM (beM 58 (lvN n) (coM 20 0 0 (zAt z.1) z))).2.2.2 := k4_4
      have r60_5 : aI τ5 60 = _ := (hS5.2 60).trans r60_4
      refine ⟨fun h8 => absurd h8 (by decide), fun h8 => ?_⟩
      clear h8
      refine hB _ _ _ _ _ (fun m9 hm9 => ?_)
      dsimp only [ugo, uwp, ust, uct, rfd, BwhileOf, Nat.beq, lv_args, rlk, rs1, rs2, rdl, rky, rcd, rno, rsw, Value.category, List.filter, List.take, List.drop, List.reverse, List.reverseAux, List.cons_append, List.nil_append, Option.toList, Int.toNat, Int.reduceToNat, if_pos, if_neg, reduceIte, ↓reduceIte, Nat.reduceAdd, Nat.reduceEqDiff, Nat.reduceBEq, beq_self_eq_true, Bool.not_true, Bool.not_false, Bool.and_true, Bool.and_false, Bool.true_and, Bool.false_and, gI_sI, gI_sL, gI_sA, gI_sM, gL_sI, gL_sL, gL_sA, gL_sM, aI_sI, aI_sL, aI_sA, aI_sM, aL_sI, aL_sL, aL_sA, aL_sM, BwhileOf_0, BwhileOf_37, BwhileOf_44, BwhileOf_46, oi_0, oi_20, oi_26, oi_27, oi_4]; try dsimp only
      refine ⟨trivial, fun w10 τ10 hq10 => ?_⟩
      obtain ⟨hq10, hL10⟩ := hq10
      have hq10 := hq10 N _ (accM (coM 26 (tnM z : Int) 0 (zAt z.1) (thM (beM 58 (lvN n) (coM 20 0 0 (zAt z.1) z))))) n ⟨by rw [show (accM (coM 26 (tnM z : Int) 0 (zAt z.1) (thM (beM 58 (lvN n) (coM 20 0 0 (zAt z.1) z))))).1 = (accY z.1) from hs5]; exact (SR.x (e_ := 0) (by repeat (first | exact hR5 | refine SR.i ?_ rfl | refine SR.a ?_ rfl))), by omega, BZ.pcm (N := N) (F := F) (K := F) (by repeat (first | exact hZ5 | refine BZ.i ?_ rfl | refine BZ.a ?_ rfl)), BZ.tl (N := N) (F := F) (K := F) (by repeat (first | exact hZ5 | refine BZ.i ?_ rfl | refine BZ.a ?_ rfl))⟩
      rcases hq10 with ⟨rfl, hF10⟩ | ⟨rfl, hX10, hPx10, h33_10⟩
      · dsimp only [Option.toList, List.cons_append, List.nil_append, Nat.beq, gI_sI, gI_sL, gI_sA, gI_sM, gL_sI, gL_sL, gL_sA, gL_sM, aI_sI, aI_sL, aI_sA, aI_sM, aL_sI, aL_sL, aL_sA, aL_sM]
        rw [show (accM (coM 26 (tnM z : Int) 0 (zAt z.1) (thM (beM 58 (lvN n) (coM 20 0 0 (zAt z.1) z))))).1 = (accY z.1) from hs5] at hF10
        refine ⟨fun h11 => absurd h11 (by decide), fun h11 => ?_⟩
        clear h11
        refine hB _ _ _ _ _ (fun m12 hm12 => ?_)
        dsimp only [ugo, uwp, ust, uct, rfd, BwhileOf, Nat.beq, lv_args, rlk, rs1, rs2, rdl, rky, rcd, rno, rsw, Value.category, List.filter, List.take, List.drop, List.reverse, List.reverseAux, List.cons_append, List.nil_append, Option.toList, Int.toNat, Int.reduceToNat, if_pos, if_neg, reduceIte, ↓reduceIte, Nat.reduceAdd, Nat.reduceEqDiff, Nat.reduceBEq, beq_self_eq_true, Bool.not_true, Bool.not_false, Bool.and_true, Bool.and_false, Bool.true_and, Bool.false_and, gI_sI, gI_sL, gI_sA, gI_sM, gL_sI, gL_sL, gL_sA, gL_sM, aI_sI, aI_sL, aI_sA, aI_sM, aL_sI, aL_sL, aL_sA, aL_sM, BwhileOf_0, BwhileOf_37, BwhileOf_44, BwhileOf_46, oi_0, oi_20, oi_26, oi_27, oi_4]; try dsimp only
        unfold Qv_whileOfZ
        try dsimp only
        refine StZ.o hPhi ?_
        rw [st_whi' hnn.2.1 hcd]
        refine StQ.f hF10 ?_
        exact (by repeat (first | with_reducible exact GpY.rf | with_reducible refine GpY.tr ?_ (gd_fo _) | with_reducible refine GpY.tr ?_ (gd_ef _) | with_reducible refine GpY.tr ?_ (gd_cf _) | with_reducible refine GpY.tr ?_ (gd_wt _) | with_reducible refine GpY.tr ?_ (gd_xp _) | with_reducible refine GpY.tr ?_ (gd_acc _) | with_reducible refine GpY.tr ?_ (gd_rai _) | with_reducible refine GpY.tr ?_ (gd_e _) | with_reducible refine GpY.tr ?_ (gd_o _) | with_reducible refine GpY.tr ?_ (gd_c _) | with_reducible refine GpY.tr ?_ (gd_op _) | with_reducible refine GpY.tr ?_ (gd_clp gd_e _ _) | with_reducible refine GpY.tr ?_ (gd_tl _) | with_reducible refine GpY.tr ?_ (gd_sf _ _ _) | with_reducible refine GpY.tr ?_ (gd_cl _) | with_reducible refine GpY.tr ?_ (gd_pc _) | with_reducible refine GpY.tr ?_ (gd_st _) | with_reducible refine GpY.tr ?_ (gd_rw _) | with_reducible refine GpY.tr ?_ (gd_typ _) | with_reducible refine GpY.tr ?_ (gd_dcl _) | with_reducible refine GpY.tr ?_ (gd_va2 _) | with_reducible refine GpY.tr ?_ (gd_cnd _) | with_reducible refine GpY.tr ?_ (gd_tr1 _) | with_reducible refine GpY.tr ?_ (gd_tr2 (fun _ => gd_rw) _) | with_reducible refine GpY.tr ?_ (gd_tr3 (fun _ => gd_rw) _) | with_reducible refine GpY.tr ?_ (gd_fo1 _) | with_reducible refine GpY.tr ?_ (gd_fo2 _) | with_reducible refine GpY.tr ?_ (gd_fo3 _) | with_reducible refine GpY.tr ?_ (gd_fex _) | with_reducible refine GpY.tr ?_ (pg_var.1) | with_reducible refine GpY.tr ?_ (pg_cas.1) | exact GpY.rf))
      · dsimp only [Option.toList, List.cons_append, List.nil_append, Nat.beq, gI_sI, gI_sL, gI_sA, gI_sM, gL_sI, gL_sL, gL_sA, gL_sM, aI_sI, aI_sL, aI_sA, aI_sM, aL_sI, aL_sL, aL_sA, aL_sM]
        rw [show (accM (coM 26 (tnM z : Int) 0 (zAt z.1) (thM (beM 58 (lvN n) (coM 20 0 0 (zAt z.1) z))))).1 = (accY z.1) from hs5] at hX10
        have hR10 := SR.kr (e_ := 0) (by repeat (first | exact hR5 | refine SR.i ?_ rfl | refine SR.a ?_ rfl)) hX10 (p2_cd _)
        have hg10 := FgR.kr (e_ := 0) (s := (accY z.1)) (n := n) (by repeat (first | exact hg5 | refine FgR.i ?_ rfl | refine FgR.a ?_ rfl)) (by repeat (first | exact hR5 | refine SR.i ?_ rfl | refine SR.a ?_ rfl)) hX10
        have hf10 := frR_kr hX10
        have k6_10 : 0 < gI τ10 36 := by rw [hX10.2.2.1.1 36 rfl]; exact k6_5
        have k9_10 : nT (gI τ2 49) < nT (gI τ10 49) := by rw [hX10.2.2.1.1 49 rfl]; exact k9_5
        have hZ10 : BZ N τ10 (cdM N (snM z) n (accM (coM 26 (tnM z : Int) 0 (zAt z.1) (thM (beM 58 (lvN n) (coM 20 0 0 (zAt z.1) z)))))) F F := BZ.cd (by repeat (first | exact hZ5 | refine BZ.i ?_ rfl | refine BZ.a ?_ rfl)) hX10.2.2 hL10 hPx10
        have hK10 : KtR τ10 (cdM N (snM z) n (accM (coM 26 (tnM z : Int) 0 (zAt z.1) (thM (beM 58 (lvN n) (coM 20 0 0 (zAt z.1) z)))))) := KtR.cd (by repeat (first | exact hK5 | refine KtR.i ?_ | refine KtR.a ?_ (by decide))) hX10.2.2
        have hs10 : (cdM N (snM z) n (accM (coM 26 (tnM z : Int) 0 (zAt z.1) (thM (beM 58 (lvN n) (coM 20 0 0 (zAt z.1) z)))))).1 = (cndY n (accY z.1)) := lf_cd.trans (congrArg (cndY n) hs5)
        have hPg10 : PgZ z (thM (beM 58 (lvN n) (coM 20 0 0 (zAt z.1) z))) (cdM N (snM z) n (accM (coM 26 (tnM z : Int) 0 (zAt z.1) (thM (beM 58 (lvN n) (coM 20 0 0 (zAt z.1) z)))))) := PgZ.cd hPg5
        have k4_10 : (cdM N (snM z) n (accM (coM 26 (tnM z : Int) 0 (zAt z.1) (thM (beM 58 (lvN n) (coM 20 0 0 (zAt z.1) z)))))).2.2.2 = (thM (beM 58 (lvN n) (coM 20 0 0 (zAt z.1) z))).2.2.2 := (k4_cd.trans k4_5)
        have r60_10 : aI τ10 60 = _ := (hX10.2.2.1.2 60 rfl).trans r60_5
        refine ⟨fun h13 => ?_, fun h13 => absurd h13 (by decide)⟩
        clear h13
        refine hB _ _ _ _ _ (fun m14 hm14 => ?_)
        dsimp only [ugo, uwp, ust, uct, rfd, BwhileOf, Nat.beq, lv_args, rlk, rs1, rs2, rdl, rky, rcd, rno, rsw, Value.category, List.filter, List.take, List.drop, List.reverse, List.reverseAux, List.cons_append, List.nil_append, Option.toList, Int.toNat, Int.reduceToNat, if_pos, if_neg, reduceIte, ↓reduceIte, Nat.reduceAdd, Nat.reduceEqDiff, Nat.reduceBEq, beq_self_eq_true, Bool.not_true, Bool.not_false, Bool.and_true, Bool.and_false, Bool.true_and, Bool.false_and, gI_sI, gI_sL, gI_sA, gI_sM, gL_sI, gL_sL, gL_sA, gL_sM, aI_sI, aI_sL, aI_sA, aI_sM, aL_sI, aL_sL, aL_sA, aL_sM, BwhileOf_0, BwhileOf_37, BwhileOf_44, BwhileOf_46, oi_0, oi_20, oi_26, oi_27, oi_4]; try dsimp only
        refine ⟨trivial, fun w15 τ15 hq15 => ?_⟩
        obtain ⟨hq15, hL15⟩ := hq15
        obtain ⟨rfl, hEz15⟩ := hq15 trivial
        have hE15 := hEz15.1
        have hR15 := SR.em (e_ := 0) (s := (cndY n (accY z.1))) (n := n) (by repeat (first | exact hR10 | refine SR.i ?_ rfl | refine SR.a ?_ rfl)) hE15
        have hf15 := frR_em hE15
        have hg15 := FgR.em (e_ := 0) (by repeat (first | exact hg10 | refine FgR.i ?_ rfl | refine FgR.a ?_ rfl)) (s := (cndY n (accY z.1))) (n := n) (by repeat (first | exact hR10 | refine SR.i ?_ rfl | refine SR.a ?_ rfl)) hE15
        dsimp only [Option.toList, List.cons_append, List.nil_append, Nat.beq, gI_sI, gI_sL, gI_sA, gI_sM, gL_sI, gL_sL, gL_sA, gL_sM, aI_sI, aI_sL, aI_sA, aI_sM, aL_sI, aL_sL, aL_sA, aL_sM]
        have k6_15 : 0 < gI τ15 36 := by rw [hE15.1 36 (by decide)]; exact k6_10
        have k9_15 : nT (gI τ2 49) < nT (gI τ15 49) := by rw [hE15.1 49 (by decide)]; exact k9_10
        have hZ15 : BZ N τ15 (cxM 27 (tnM z : Int) 0 (zAt z.1) (cdM N (snM z) n (accM (coM 26 (tnM z : Int) 0 (zAt z.1) (thM (beM 58 (lvN n) (coM 20 0 0 (zAt z.1) z))))))) F F := BZ.co (x := ((27 : Int), ((tnM z : Int) : Int), (0 : Int), ((zAt z.1) : Int), (((xnM (cdM N (snM z) n (accM (coM 26 (tnM z : Int) 0 (zAt z.1) (thM (beM 58 (lvN n) (coM 20 0 0 (zAt z.1) z)))))) : Int) - 1) : Int))) (by repeat (first | exact hZ10 | refine BZ.i ?_ rfl | refine BZ.a ?_ rfl)) hEz15 hL15 rfl (hkI) rfl (hC) (show ¬ (27 : Int) = 51 by decide)
        have hK15 : KtR (sA τ15 52 (upd (aI τ15 52) ((gI τ2 49)).toNatClampNeg (gI _ 18))) (cxM 27 (tnM z : Int) 0 (zAt z.1) (cdM N (snM z) n (accM (coM 26 (tnM z : Int) 0 (zAt z.1) (thM (beM 58 (lvN n) (coM 20 0 0 (zAt z.1) z))))))) := KtR.es (x := ((27 : Int), ((tnM z : Int) : Int), (0 : Int), ((zAt z.1) : Int), (((xnM (cdM N (snM z) n (accM (coM 26 (tnM z : Int) 0 (zAt z.1) (thM (beM 58 (lvN n) (coM 20 0 0 (zAt z.1) z)))))) : Int) - 1) : Int))) (k := (tnM z)) (s := (gI τ2 49)) (by repeat (first | exact hK10 | refine KtR.i ?_ | refine KtR.a ?_ (by decide))) hEz15 (by decide) (by have q9 : tnM (cdM N (snM z) n (accM (coM 26 (tnM z : Int) 0 (zAt z.1) (thM (beM 58 (lvN n) (coM 20 0 0 (zAt z.1) z)))))) = tnM (thM (beM 58 (lvN n) (coM 20 0 0 (zAt z.1) z))) := congrArg (fun y => y.2.2.2) (show (cdM N (snM z) n (accM (coM 26 (tnM z : Int) 0 (zAt z.1) (thM (beM 58 (lvN n) (coM 20 0 0 (zAt z.1) z)))))).2.2.2 = (thM (beM 58 (lvN n) (coM 20 0 0 (zAt z.1) z))).2.2.2 from k4_10); rw [q9]; exact Nat.lt_succ_self _) (hkI) rfl (show ¬ (27 : Int) = 50 ∧ ¬ (27 : Int) = 41 ∧ ¬ (27 : Int) = 51 by decide) (em18 (N := N) (F := F) (K := F) hEz15 (by repeat (first | exact hZ10 | refine BZ.i ?_ rfl | refine BZ.a ?_ rfl))) (show ∀ a, a < 60 → (sqZ a 27 = true ↔ a = 52) by decide)
        have hs15 : (cxM 27 (tnM z : Int) 0 (zAt z.1) (cdM N (snM z) n (accM (coM 26 (tnM z : Int) 0 (zAt z.1) (thM (beM 58 (lvN n) (coM 20 0 0 (zAt z.1) z))))))).1 = (cndY n (accY z.1)) := hs10
        have hPg15 : PgZ z (thM (beM 58 (lvN n) (coM 20 0 0 (zAt z.1) z))) (cxM 27 (tnM z : Int) 0 (zAt z.1) (cdM N (snM z) n (accM (coM 26 (tnM z : Int) 0 (zAt z.1) (thM (beM 58 (lvN n) (coM 20 0 0 (zAt z.1) z))))))) := PgZ.co hPg10
        have k4_15 : (cxM 27 (tnM z : Int) 0 (zAt z.1) (cdM N (snM z) n (accM (coM 26 (tnM z : Int) 0 (zAt z.1) (thM (beM 58 (lvN n) (coM 20 0 0 (zAt z.1) z))))))).2.2.2 = (thM (beM 58 (lvN n) (coM 20 0 0 (zAt z.1) z))).2.2.2 := k4_10
        have r60_15 : aI τ15 60 = _ := (hE15.2.2.2.2.1 60 (by omega)).trans r60_10
        intro p16
        refine ⟨trivial, fun w17 τ17 hq17 => ?_⟩
        obtain ⟨hq17, hL17⟩ := hq17
        have hq17 := hq17 (cndY n (accY z.1)) n ⟨(by repeat (first | exact hR15 | refine SR.i ?_ rfl | refine SR.a ?_ rfl)), (by repeat (first | exact hg15 | refine FgR.i ?_ rfl | refine FgR.a ?_ rfl)), k9_15, by decide, (iff_of_false (by decide) (by (try simp only [frR_i, frR_a, ne_eq, Nat.reduceEqDiff, not_false_eq_true, hf15, hf10, hf5, hf4, hf3, hf2]); exact hne)), k6_15, (fun q => absurd q (by decide))⟩
        rcases hq17 with ⟨rfl, hn17, hF17⟩ | ⟨rfl, hn17, hR17, hg17, hf17, hOp17⟩
        · dsimp only [Option.toList, List.cons_append, List.nil_append, Nat.beq, gI_sI, gI_sL, gI_sA, gI_sM, gL_sI, gL_sL, gL_sA, gL_sM, aI_sI, aI_sL, aI_sA, aI_sM, aL_sI, aL_sL, aL_sA, aL_sM]
          unfold Qv_whileOfZ
          try dsimp only
          refine StZ.o hPhi ?_
          rw [st_whi' hnn.2.1 hcd, st_0 hn17]
          refine StQ.f hF17 ?_
          exact (by repeat (first | with_reducible exact GpY.rf | with_reducible refine GpY.tr ?_ (gd_fo _) | with_reducible refine GpY.tr ?_ (gd_ef _) | with_reducible refine GpY.tr ?_ (gd_cf _) | with_reducible refine GpY.tr ?_ (gd_wt _) | with_reducible refine GpY.tr ?_ (gd_xp _) | with_reducible refine GpY.tr ?_ (gd_acc _) | with_reducible refine GpY.tr ?_ (gd_rai _) | with_reducible refine GpY.tr ?_ (gd_e _) | with_reducible refine GpY.tr ?_ (gd_o _) | with_reducible refine GpY.tr ?_ (gd_c _) | with_reducible refine GpY.tr ?_ (gd_op _) | with_reducible refine GpY.tr ?_ (gd_clp gd_e _ _) | with_reducible refine GpY.tr ?_ (gd_tl _) | with_reducible refine GpY.tr ?_ (gd_sf _ _ _) | with_reducible refine GpY.tr ?_ (gd_cl _) | with_reducible refine GpY.tr ?_ (gd_pc _) | with_reducible refine GpY.tr ?_ (gd_st _) | with_reducible refine GpY.tr ?_ (gd_rw _) | with_reducible refine GpY.tr ?_ (gd_typ _) | with_reducible refine GpY.tr ?_ (gd_dcl _) | with_reducible refine GpY.tr ?_ (gd_va2 _) | with_reducible refine GpY.tr ?_ (gd_cnd _) | with_reducible refine GpY.tr ?_ (gd_tr1 _) | with_reducible refine GpY.tr ?_ (gd_tr2 (fun _ => gd_rw) _) | with_reducible refine GpY.tr ?_ (gd_tr3 (fun _ => gd_rw) _) | with_reducible refine GpY.tr ?_ (gd_fo1 _) | with_reducible refine GpY.tr ?_ (gd_fo2 _) | with_reducible refine GpY.tr ?_ (gd_fo3 _) | with_reducible refine GpY.tr ?_ (gd_fex _) | with_reducible refine GpY.tr ?_ (pg_var.1) | with_reducible refine GpY.tr ?_ (pg_cas.1) | exact GpY.rf))
        · dsimp only [Option.toList, List.cons_append, List.nil_append, Nat.beq, gI_sI, gI_sL, gI_sA, gI_sM, gL_sI, gL_sL, gL_sA, gL_sM, aI_sI, aI_sL, aI_sA, aI_sM, aL_sI, aL_sL, aL_sA, aL_sM]
          have hf17 : frR τ17 = (4 : Int) :: _ := hf17
          have hfi : fiS (cxM 27 (tnM z : Int) 0 (zAt z.1) (cdM N (snM z) n (accM (coM 26 (tnM z : Int) 0 (zAt z.1) (thM (beM 58 (lvN n) (coM 20 0 0 (zAt z.1) z))))))) (snM z) = zAt z.1 := PgZ.fh hPg15 rfl rfl
          have hZf := BZ.fr (k := 4) (kd := 58) (lv := lvN n) (x := []) hZ hZ15 ((SgZ.e rfl).tr hPg15.1) ((congrArg Prod.fst (show (cxM 27 (tnM z : Int) 0 (zAt z.1) (cdM N (snM z) n (accM (coM 26 (tnM z : Int) 0 (zAt z.1) (thM (beM 58 (lvN n) (coM 20 0 0 (zAt z.1) z))))))).2.2.2 = (thM (beM 58 (lvN n) (coM 20 0 0 (zAt z.1) z))).2.2.2 from k4_15)).trans rfl) ((congrArg (fun y => y.2.2.2) (show (cxM 27 (tnM z : Int) 0 (zAt z.1) (cdM N (snM z) n (accM (coM 26 (tnM z : Int) 0 (zAt z.1) (thM (beM 58 (lvN n) (coM 20 0 0 (zAt z.1) z))))))).2.2.2 = (thM (beM 58 (lvN n) (coM 20 0 0 (zAt z.1) z))).2.2.2 from k4_15)).trans rfl) hu (by decide) rfl (fun q => absurd (show (4 : Int) = 7 from q) (by decide))
          have hZ17 : BZ N τ17 (arM (snM z) (cxM 27 (tnM z : Int) 0 (zAt z.1) (cdM N (snM z) n (accM (coM 26 (tnM z : Int) 0 (zAt z.1) (thM (beM 58 (lvN n) (coM 20 0 0 (zAt z.1) z)))))))) ((frB 4 z []) :: F) ((frB 4 z []) :: F) := BZ.op (a := (frB 4 z [])) (F := F) (z := (arM (snM z) (cxM 27 (tnM z : Int) 0 (zAt z.1) (cdM N (snM z) n (accM (coM 26 (tnM z : Int) 0 (zAt z.1) (thM (beM 58 (lvN n) (coM 20 0 0 (zAt z.1) z))))))))) (by repeat (first | exact hZf | refine BZ.i ?_ rfl | refine BZ.a ?_ rfl)) hOp17 hL17 rfl hkI (fun _ => ⟨hstI, (show itN (cxM 27 (tnM z : Int) 0 (zAt z.1) (cdM N (snM z) n (accM (coM 26 (tnM z : Int) 0 (zAt z.1) (thM (beM 58 (lvN n) (coM 20 0 0 (zAt z.1) z))))))).2.1 (cnM z) = some (.inr (20, 0, 0, fiS (cxM 27 (tnM z : Int) 0 (zAt z.1) (cdM N (snM z) n (accM (coM 26 (tnM z : Int) 0 (zAt z.1) (thM (beM 58 (lvN n) (coM 20 0 0 (zAt z.1) z))))))) (snM z), -1)) by rw [hfi]; exact hPg15.st), (show (aI _ 60 (tnM z)).toInt = fiS (cxM 27 (tnM z : Int) 0 (zAt z.1) (cdM N (snM z) n (accM (coM 26 (tnM z : Int) 0 (zAt z.1) (thM (beM 58 (lvN n) (coM 20 0 0 (zAt z.1) z))))))) (snM z) by rw [hfi]; exact (congrArg Int32.toInt (congrFun r60_15 _)).trans r60_3)⟩) ⟨(fun q => absurd (show (4 : Int) = 7 from q) (by decide)), (fun q => absurd (show (4 : Int) = 0 from q) (by decide))⟩ (fun q => absurd (show (4 : Int) = 9 from q) (by decide))
          have hK17 : KtR τ17 (arM (snM z) (cxM 27 (tnM z : Int) 0 (zAt z.1) (cdM N (snM z) n (accM (coM 26 (tnM z : Int) 0 (zAt z.1) (thM (beM 58 (lvN n) (coM 20 0 0 (zAt z.1) z)))))))) := KtR.z (by repeat (first | exact hK15 | refine KtR.i ?_ | refine KtR.a ?_ (by decide))) rfl rfl (fun a h1 h2 => hOp17.2.2.2.1 a (by omega))
          have hs17 : (arM (snM z) (cxM 27 (tnM z : Int) 0 (zAt z.1) (cdM N (snM z) n (accM (coM 26 (tnM z : Int) 0 (zAt z.1) (thM (beM 58 (lvN n) (coM 20 0 0 (zAt z.1) z)))))))).1 = (cndY n (accY z.1)) := hs15
          have hPg17 : PgZ z (thM (beM 58 (lvN n) (coM 20 0 0 (zAt z.1) z))) (arM (snM z) (cxM 27 (tnM z : Int) 0 (zAt z.1) (cdM N (snM z) n (accM (coM 26 (tnM z : Int) 0 (zAt z.1) (thM (beM 58 (lvN n) (coM 20 0 0 (zAt z.1) z)))))))) := PgZ.e hPg15 rfl rfl
          unfold Qv_whileOfZ
          try dsimp only
          exact Or.inr ⟨rfl, (arM (snM z) (cxM 27 (tnM z : Int) 0 (zAt z.1) (cdM N (snM z) n (accM (coM 26 (tnM z : Int) 0 (zAt z.1) (thM (beM 58 (lvN n) (coM 20 0 0 (zAt z.1) z)))))))), (n - 1), (frB 4 z [] :: F), (by rw [show (arM (snM z) (cxM 27 (tnM z : Int) 0 (zAt z.1) (cdM N (snM z) n (accM (coM 26 (tnM z : Int) 0 (zAt z.1) (thM (beM 58 (lvN n) (coM 20 0 0 (zAt z.1) z)))))))).1 = (cndY n (accY z.1)) from hs17]; exact (by repeat (first | exact hR17 | refine SR.i ?_ rfl | refine SR.a ?_ rfl))), FgR.ny (by repeat (first | exact hg17 | refine FgR.i ?_ rfl | refine FgR.a ?_ rfl)) hf17 (by decide) (Or.inl rfl), (by repeat (first | exact hZ17 | refine BZ.i ?_ rfl | refine BZ.a ?_ rfl)), (by repeat (first | exact hK17 | refine KtR.i ?_ | refine KtR.a ?_ (by decide))), hw, (fun q => absurd (show (4 : Int) = 7 from q) (by decide)), (by rw [show (arM (snM z) (cxM 27 (tnM z : Int) 0 (zAt z.1) (cdM N (snM z) n (accM (coM 26 (tnM z : Int) 0 (zAt z.1) (thM (beM 58 (lvN n) (coM 20 0 0 (zAt z.1) z)))))))).1 = (cndY n (accY z.1)) from hs17]; exact GpY.a1 (by repeat (first | with_reducible exact GpY.rf | with_reducible refine GpY.tr ?_ (gd_fo _) | with_reducible refine GpY.tr ?_ (gd_ef _) | with_reducible refine GpY.tr ?_ (gd_cf _) | with_reducible refine GpY.tr ?_ (gd_wt _) | with_reducible refine GpY.tr ?_ (gd_xp _) | with_reducible refine GpY.tr ?_ (gd_acc _) | with_reducible refine GpY.tr ?_ (gd_rai _) | with_reducible refine GpY.tr ?_ (gd_e _) | with_reducible refine GpY.tr ?_ (gd_o _) | with_reducible refine GpY.tr ?_ (gd_c _) | with_reducible refine GpY.tr ?_ (gd_op _) | with_reducible refine GpY.tr ?_ (gd_clp gd_e _ _) | with_reducible refine GpY.tr ?_ (gd_tl _) | with_reducible refine GpY.tr ?_ (gd_sf _ _ _) | with_reducible refine GpY.tr ?_ (gd_cl _) | with_reducible refine GpY.tr ?_ (gd_pc _) | with_reducible refine GpY.tr ?_ (gd_st _) | with_reducible refine GpY.tr ?_ (gd_rw _) | with_reducible refine GpY.tr ?_ (gd_typ _) | with_reducible refine GpY.tr ?_ (gd_dcl _) | with_reducible refine GpY.tr ?_ (gd_va2 _) | with_reducible refine GpY.tr ?_ (gd_cnd _) | with_reducible refine GpY.tr ?_ (gd_tr1 _) | with_reducible refine GpY.tr ?_ (gd_tr2 (fun _ => gd_rw) _) | with_reducible refine GpY.tr ?_ (gd_tr3 (fun _ => gd_rw) _) | with_reducible refine GpY.tr ?_ (gd_fo1 _) | with_reducible refine GpY.tr ?_ (gd_fo2 _) | with_reducible refine GpY.tr ?_ (gd_fo3 _) | with_reducible refine GpY.tr ?_ (gd_fex _) | with_reducible refine GpY.tr ?_ (pg_var.1) | with_reducible refine GpY.tr ?_ (pg_cas.1) | exact GpY.rf)) hR.1.a5.2 ha1), (pc_stM (by simp [frB])).trans (sm_wh' hnn.2.1 hcd).symm⟩
  next => exact hP.elim
theorem w_whileOfZ : UMet 54 (fun _ _ => True) Qw_whileOfZ := fun A1 σ _ w τ h N z n F hP => v_whileOfZ N z n F A1 σ hP w τ h
def Pv_doOfZ (N : Int → Int) (z : ZS) (n : Nat) (F : List FrZ) : UP1 := fun A1 σ => match A1 with
  | [] => SR σ z.1 n ∧ FgR σ 0 ∧ frR σ ≠ [] ∧ BZ N σ z F F ∧ KtR σ z ∧ WfF F ∧ LuZ z F ∧ 1 ≤ zAt z.1 ∧ codY z.1 = 59
  | _ => False
def Qv_doOfZ (N : Int → Int) (z : ZS) (n : Nat) (F : List FrZ) : UQ1 := fun A1 σ w τ => match A1 with
  | [] => StZ N τ (sfM N F n (stM N n z)) w
  | _ => False
def Qw_doOfZ : UQ1 := fun A1 σ w τ => ∀ (N : Int → Int) (z : ZS) (n : Nat) (F : List FrZ), Pv_doOfZ N z n F A1 σ → Qv_doOfZ N z n F A1 σ w τ
set_option maxRecDepth 100000 in
set_option maxHeartbeats 4000000 in
theorem v_doOfZ (N : Int → Int) (z : ZS) (n : Nat) (F : List FrZ) : UMet 55 (Pv_doOfZ N z n F) (Qv_doOfZ N z n F) := by
  refine UMet.by BdoOf [(20, (fun _ _ => True), (LqR Qw_emitZ)), (36, (fun _ _ => True), (LqR Qw_openZ)), (17, (fun _ _ => True), (LqR Qw_take)), (35, (fun _ _ => True), (LqR Qw_thingZ))] rfl (ucc (UMet.aL ck_P rfl w_emitZ) (ucc (UMet.aL ck_P rfl w_openZ) (ucc (UMet.aL ck_P rfl w_take) (ucc (UMet.aL ck_P rfl w_thingZ) uc0)))) ?_
  intro A1 σ hP K hB hW
  unfold Pv_doOfZ at hP
  split at hP
  next =>
    obtain ⟨hR, hg, hne, hZ, hK, hw, hu, ha1, hcd⟩ := hP
    have hnn := hR.2.1
    have hm6 := hR.2.2.1.2.2.resolve_left hne
    have hC : (gI σ 14).toInt = zAt z.1 := hR.1.2.1.1.symm
    have hPhi := lf_sst (n := n) hZ hw
    intro n0_
    refine hB _ _ _ _ _ (fun m1 hm1 => ?_)
    dsimp only [ugo, uwp, ust, uct, rfd, BdoOf, Nat.beq, lv_args, rlk, rs1, rs2, rdl, rky, rcd, rno, rsw, Value.category, List.filter, List.take, List.drop, List.reverse, List.reverseAux, List.cons_append, List.nil_append, Option.toList, Int.toNat, Int.reduceToNat, if_pos, if_neg, reduceIte, ↓reduceIte, Nat.reduceAdd, Nat.reduceEqDiff, Nat.reduceBEq, beq_self_eq_true, Bool.not_true, Bool.not_false, Bool.and_true, Bool.and_false, Bool.true_and, Bool.false_and, gI_sI, gI_sL, gI_sA, gI_sM, gL_sI, gL_sL, gL_sA, gL_sM, aI_sI, aI_sL, aI_sA, aI_sM, aL_sI, aL_sL, aL_sA, aL_sM, BdoOf_0, BdoOf_37, BdoOf_47, BdoOf_51, BdoOf_52, oi_0, oi_1, oi_20, oi_29, oi_5]; try dsimp only
    refine ⟨trivial, fun w2 τ2 hq2 => ?_⟩
    obtain ⟨hq2, hL2⟩ := hq2
    obtain ⟨rfl, hEz2⟩ := hq2 trivial
    have hE2 := hEz2.1
    have hR2 := SR.em (e_ := 0) (s := z.1) (n := n) (by repeat (first | exact hR | refine SR.i ?_ rfl | refine SR.a ?_ rfl)) hE2
    have hf2 := frR_em hE2
    have hg2 := FgR.em (e_ := 0) (by repeat (first | exact hg | refine FgR.i ?_ rfl | refine FgR.a ?_ rfl)) (s := z.1) (n := n) (by repeat (first | exact hR | refine SR.i ?_ rfl | refine SR.a ?_ rfl)) hE2
    dsimp only [Option.toList, List.cons_append, List.nil_append, Nat.beq, gI_sI, gI_sL, gI_sA, gI_sM, gL_sI, gL_sL, gL_sA, gL_sM, aI_sI, aI_sL, aI_sA, aI_sM, aL_sI, aL_sL, aL_sA, aL_sM]
    have k6_2 : 0 < gI τ2 36 := by rw [hE2.1 36 (by decide)]; exact hm6
    have hstI : (gI σ 18).toInt = (cnM z : Int) := em18 (N := N) (F := F) (K := F) hEz2 (by repeat (first | exact hZ | refine BZ.i ?_ rfl | refine BZ.a ?_ rfl))
    have hZ2 : BZ N τ2 (coM 20 0 0 (zAt z.1) z) F F := BZ.co (x := ((20 : Int), (0 : Int), (0 : Int), ((zAt z.1) : Int), ((-1) : Int))) (by repeat (first | exact hZ | refine BZ.i ?_ rfl | refine BZ.a ?_ rfl)) hEz2 hL2 rfl (rfl) rfl (hC) (show ¬ (20 : Int) = 51 by decide)
    have hK2 : KtR τ2 (coM 20 0 0 (zAt z.1) z) := KtR.en (x := ((20 : Int), (0 : Int), (0 : Int), ((zAt z.1) : Int), ((-1) : Int))) (by repeat (first | exact hK | refine KtR.i ?_ | refine KtR.a ?_ (by decide))) (emK hEz2) (show thO 20 = false by decide)
    have hs2 : (coM 20 0 0 (zAt z.1) z).1 = z.1 := rfl
    refine ⟨trivial, fun w3 τ3 hq3 => ?_⟩
    obtain ⟨hq3, hL3⟩ := hq3
    obtain ⟨rfl, hTz3⟩ := hq3 trivial
    have hT3 := hTz3.1
    have hR3 := SR.th (e_ := 0) (s := z.1) (n := n) (by repeat (first | exact hR2 | refine SR.i ?_ rfl | refine SR.a ?_ rfl)) hT3
    have hg3 := FgR.th (e_ := 0) (by repeat (first | exact hg2 | refine FgR.i ?_ rfl | refine FgR.a ?_ rfl)) (s := z.1) (n := n) (by repeat (first | exact hR2 | refine SR.i ?_ rfl | refine SR.a ?_ rfl)) hT3
    have hf3 := frR_th hT3
    have hk3 := th49 hT3
    have k6_3 : 0 < gI τ3 36 := by rw [hT3.1 36 (by decide)]; exact k6_2
    have k9_3 : nT (gI τ2 49) < nT (gI τ3 49) := kthx hk3
    dsimp only [Option.toList, List.cons_append, List.nil_append, Nat.beq, gI_sI, gI_sL, gI_sA, gI_sM, gL_sI, gL_sL, gL_sA, gL_sM, aI_sI, aI_sL, aI_sA, aI_sM, aL_sI, aL_sL, aL_sA, aL_sM]
    have hkI := BZ.k49 hZ2
    have hkI : (gI τ2 49).toInt = (tnM z : Int) := hkI
    have hn49 : nT (gI τ2 49) = tnM z := hZ2.1.2.1.1
    have r60_3 : (aI τ3 60 (tnM z)).toInt = zAt z.1 := by rw [hTz3.2.2.1, hn49, upd_eq]; exact hC
    have hZ3 : BZ N τ3 (thM (beM 59 (lvN n) (coM 20 0 0 (zAt z.1) z))) F F := BZ.th (BZ.be (k := 59) (lv := lvN n) hZ2) hTz3 hL3
    have hK3 : KtR τ3 (thM (beM 59 (lvN n) (coM 20 0 0 (zAt z.1) z))) := KtR.th (z := beM 59 (lvN n) (coM 20 0 0 (zAt z.1) z)) (KtR.gh hK2 rfl rfl) hTz3 hZ2.1.2.1.1 hZ2.c18 (by have q1 := hE2.2.1; have q2 := hE2.2.2.2.2.2; lia)
    have hs3 : (thM (beM 59 (lvN n) (coM 20 0 0 (zAt z.1) z))).1 = z.1 := hs2
    have hPg3 : PgZ z (thM (beM 59 (lvN n) (coM 20 0 0 (zAt z.1) z))) (thM (beM 59 (lvN n) (coM 20 0 0 (zAt z.1) z))) := PgZ.rf rfl
    refine ⟨trivial, fun w4 τ4 hq4 => ?_⟩
    obtain ⟨hq4, hL4⟩ := hq4
    obtain ⟨rfl, hEz4⟩ := hq4 trivial
    have hE4 := hEz4.1
    have hR4 := SR.em (e_ := 0) (s := z.1) (n := n) (by repeat (first | exact hR3 | refine SR.i ?_ rfl | refine SR.a ?_ rfl)) hE4
    have hf4 := frR_em hE4
    have hg4 := FgR.em (e_ := 0) (by repeat (first | exact hg3 | refine FgR.i ?_ rfl | refine FgR.a ?_ rfl)) (s := z.1) (n := n) (by repeat (first | exact hR3 | refine SR.i ?_ rfl | refine SR.a ?_ rfl)) hE4
    dsimp only [Option.toList, List.cons_append, List.nil_append, Nat.beq, gI_sI, gI_sL, gI_sA, gI_sM, gL_sI, gL_sL, gL_sA, gL_sM, aI_sI, aI_sL, aI_sA, aI_sM, aL_sI, aL_sL, aL_sA, aL_sM]
    have k6_4 : 0 < gI τ4 36 := by rw [hE4.1 36 (by decide)]; exact k6_3
    have k9_4 : nT (gI τ2 49) < nT (gI τ4 49) := by rw [hE4.1 49 (by decide)]; exact k9_3
    have hZ4 : BZ N τ4 (coM 29 (tnM z : Int) 0 (zAt z.1) (thM (beM 59 (lvN n) (coM 20 0 0 (zAt z.1) z)))) F F := BZ.co (x := ((29 : Int), ((tnM z : Int) : Int), (0 : Int), ((zAt z.1) : Int), ((-1) : Int))) (by repeat (first | exact hZ3 | refine BZ.i ?_ rfl | refine BZ.a ?_ rfl)) hEz4 hL4 rfl (hkI) rfl (hC) (show ¬ (29 : Int) = 51 by decide)
    have hK4 : KtR τ4 (coM 29 (tnM z : Int) 0 (zAt z.1) (thM (beM 59 (lvN n) (coM 20 0 0 (zAt z.1) z)))) := KtR.ek (x := ((29 : Int), ((tnM z : Int) : Int), (0 : Int), ((zAt z.1) : Int), ((-1) : Int))) (k := (tnM z)) (by repeat (first | exact hK3 | refine KtR.i ?_ | refine KtR.a ?_ (by decide))) (emK hEz4) (by have q9 : tnM (thM (beM 59 (lvN n) (coM 20 0 0 (zAt z.1) z))) = tnM (thM (beM 59 (lvN n) (coM 20 0 0 (zAt z.1) z))) := congrArg (fun y => y.2.2.2) (show (thM (beM 59 (lvN n) (coM 20 0 0 (zAt z.1) z))).2.2.2 = (thM (beM 59 (lvN n) (coM 20 0 0 (zAt z.1) z))).2.2.2 from rfl); rw [q9]; exact Nat.lt_succ_self _) rfl (show ¬ (29 : Int) = 50 ∧ ¬ (29 : Int) = 41 ∧ ¬ (29 : Int) = 51 by decide) (show ∀ a, a < 60 → sqZ a 29 = false by decide)
    have hs4 : (coM 29 (tnM z : Int) 0 (zAt z.1) (thM (beM 59 (lvN n) (coM 20 0 0 (zAt z.1) z)))).1 = z.1 := hs3
    have hPg4 : PgZ z (thM (beM 59 (lvN n) (coM 20 0 0 (zAt z.1) z))) (coM 29 (tnM z : Int) 0 (zAt z.1) (thM (beM 59 (lvN n) (coM 20 0 0 (zAt z.1) z)))) := PgZ.co hPg3
    have k4_4 : (coM 29 (tnM z : Int) 0 (zAt z.1) (thM (beM 59 (lvN n) (coM 20 0 0 (zAt z.1) z)))).2.2.2 = (thM (beM 59 (lvN n) (coM 20 0 0 (zAt z.1) z))).2.2.2 := rfl
    have r60_4 : aI τ4 60 = _ := (hE4.2.2.2.2.1 60 (by omega)).trans rfl
    refine ⟨trivial, fun w5 τ5 hq5 => ?_⟩
    obtain ⟨hq5, hL5⟩ := hq5
    have hq5 := hq5 _ z.1 n ⟨(SR.x (e_ := 0) (by repeat (first | exact hR4 | refine SR.i ?_ rfl | refine SR.a ?_ rfl))), by omega, by omega⟩
    rcases hq5 with ⟨rfl, hF5⟩ | ⟨rfl, hX5, hz5, hS5⟩
    · dsimp only [Option.toList, List.cons_append, List.nil_append, Nat.beq, gI_sI, gI_sL, gI_sA, gI_sM, gL_sI, gL_sL, gL_sA, gL_sM, aI_sI, aI_sL, aI_sA, aI_sM, aL_sI, aL_sL, aL_sA, aL_sM]
      refine ⟨fun h6 => ?_, fun h6 => absurd h6 (by decide)⟩
      clear h6
      refine hB _ _ _ _ _ (fun m7 hm7 => ?_)
      dsimp only [ugo, uwp, ust, uct, rfd, BdoOf, Nat.beq, lv_args, rlk, rs1, rs2, rdl, rky, rcd, rno, rsw, Value.category, List.filter, List.take, List.drop, List.reverse, List.reverseAux, List.cons_append, List.nil_append, Option.toList, Int.toNat, Int.reduceToNat, if_pos, if_neg, reduceIte, ↓reduceIte, Nat.reduceAdd, Nat.reduceEqDiff, Nat.reduceBEq, beq_self_eq_true, Bool.not_true, Bool.not_false, Bool.and_true, Bool.and_false, Bool.true_and, Bool.false_and, gI_sI, gI_sL, gI_sA, gI_sM, gL_sI, gL_sL, gL_sA, gL_sM, aI_sI, aI_sL, aI_sA, aI_sM, aL_sI, aL_sL, aL_sA, aL_sM, BdoOf_0, BdoOf_37, BdoOf_47, BdoOf_51, BdoOf_52, oi_0, oi_1, oi_20, oi_29, oi_5]; try dsimp only
      refine hB _ _ _ _ _ (fun m8 hm8 => ?_)
      dsimp only [ugo, uwp, ust, uct, rfd, BdoOf, Nat.beq, lv_args, rlk, rs1, rs2, rdl, rky, rcd, rno, rsw, Value.category, List.filter, List.take, List.drop, List.reverse, List.reverseAux, List.cons_append, List.nil_append, Option.toList, Int.toNat, Int.reduceToNat, if_pos, if_neg, reduceIte, ↓reduceIte, Nat.reduceAdd, Nat.reduceEqDiff, Nat.reduceBEq, beq_self_eq_true, Bool.not_true, Bool.not_false, Bool.and_true, Bool.and_false, Bool.true_and, Bool.false_and, gI_sI, gI_sL, gI_sA, gI_sM, gL_sI, gL_sL, gL_sA, gL_sM, aI_sI, aI_sL, aI_sA, aI_sM, aL_sI, aL_sL, aL_sA, aL_sM, BdoOf_0, BdoOf_37, BdoOf_47, BdoOf_51, BdoOf_52, oi_0, oi_1, oi_20, oi_29, oi_5]; try dsimp only
      unfold Qv_doOfZ
      try dsimp only
      refine StZ.o hPhi ?_
      rw [st_do' hnn.2.1 hcd]
      refine StQ.f hF5 ?_
      exact (by repeat (first | with_reducible exact GpY.rf | with_reducible refine GpY.tr ?_ (gd_fo _) | with_reducible refine GpY.tr ?_ (gd_ef _) | with_reducible refine GpY.tr ?_ (gd_cf _) | with_reducible refine GpY.tr ?_ (gd_wt _) | with_reducible refine GpY.tr ?_ (gd_xp _) | with_reducible refine GpY.tr ?_ (gd_acc _) | with_reducible refine GpY.tr ?_ (gd_rai _) | with_reducible refine GpY.tr ?_ (gd_e _) | with_reducible refine GpY.tr ?_ (gd_o _) | with_reducible refine GpY.tr ?_ (gd_c _) | with_reducible refine GpY.tr ?_ (gd_op _) | with_reducible refine GpY.tr ?_ (gd_clp gd_e _ _) | with_reducible refine GpY.tr ?_ (gd_tl _) | with_reducible refine GpY.tr ?_ (gd_sf _ _ _) | with_reducible refine GpY.tr ?_ (gd_cl _) | with_reducible refine GpY.tr ?_ (gd_pc _) | with_reducible refine GpY.tr ?_ (gd_st _) | with_reducible refine GpY.tr ?_ (gd_rw _) | with_reducible refine GpY.tr ?_ (gd_typ _) | with_reducible refine GpY.tr ?_ (gd_dcl _) | with_reducible refine GpY.tr ?_ (gd_va2 _) | with_reducible refine GpY.tr ?_ (gd_cnd _) | with_reducible refine GpY.tr ?_ (gd_tr1 _) | with_reducible refine GpY.tr ?_ (gd_tr2 (fun _ => gd_rw) _) | with_reducible refine GpY.tr ?_ (gd_tr3 (fun _ => gd_rw) _) | with_reducible refine GpY.tr ?_ (gd_fo1 _) | with_reducible refine GpY.tr ?_ (gd_fo2 _) | with_reducible refine GpY.tr ?_ (gd_fo3 _) | with_reducible refine GpY.tr ?_ (gd_fex _) | with_reducible refine GpY.tr ?_ (pg_var.1) | with_reducible refine GpY.tr ?_ (pg_cas.1) | exact GpY.rf))
    · dsimp only [Option.toList, List.cons_append, List.nil_append, Nat.beq, gI_sI, gI_sL, gI_sA, gI_sM, gL_sI, gL_sL, gL_sA, gL_sM, aI_sI, aI_sL, aI_sA, aI_sM, aL_sI, aL_sL, aL_sA, aL_sM]
      have hR5 := SR.kr (e_ := 0) (by repeat (first | exact hR4 | refine SR.i ?_ rfl | refine SR.a ?_ rfl)) hX5 acc2
      have hg5 := FgR.kr (e_ := 0) (s := z.1) (n := n) (by repeat (first | exact hg4 | refine FgR.i ?_ rfl | refine FgR.a ?_ rfl)) (by repeat (first | exact hR4 | refine SR.i ?_ rfl | refine SR.a ?_ rfl)) hX5
      have hf5 := frR_kr hX5
      have k6_5 : 0 < gI τ5 36 := by rw [hX5.2.2.1.1 36 rfl]; exact k6_4
      have k9_5 : nT (gI τ2 49) < nT (gI τ5 49) := by rw [hX5.2.2.1.1 49 rfl]; exact k9_4
      have hZ5 : BZ N τ5 (accM (coM 29 (tnM z : Int) 0 (zAt z.1) (thM (beM 59 (lvN n) (coM 20 0 0 (zAt z.1) z))))) F F := BZ.tk (by repeat (first | exact hZ4 | refine BZ.i ?_ rfl | refine BZ.a ?_ rfl)) hS5 hL5
      have hK5 : KtR τ5 (accM (coM 29 (tnM z : Int) 0 (zAt z.1) (thM (beM 59 (lvN n) (coM 20 0 0 (zAt z.1) z))))) := KtR.tk (by repeat (first | exact hK4 | refine KtR.i ?_ | refine KtR.a ?_ (by decide))) hS5
      have hs5 : (accM (coM 29 (tnM z : Int) 0 (zAt z.1) (thM (beM 59 (lvN n) (coM 20 0 0 (zAt z.1) z))))).1 = (accY z.1) := congrArg accY hs4
      have hPg5 : PgZ z (thM (beM 59 (lvN n) (coM 20 0 0 (zAt z.1) z))) (accM (coM 29 (tnM z : Int) 0 (zAt z.1) (thM (beM 59 (lvN n) (coM 20 0 0 (zAt z.1) z))))) := PgZ.e hPg4 rfl rfl
      have k4_5 : (accM (coM 29 (tnM z : Int) 0 (zAt z.1) (thM (beM 59 (lvN n) (coM 20 0 0 (zAt z.1) z))))).2.2.2 = (thM (beM 59 (lvN n) (coM 20 0 0 (zAt z.1) z))).2.2.2 := k4_4
      have r60_5 : aI τ5 60 = _ := (hS5.2 60).trans r60_4
      refine ⟨fun h9 => absurd h9 (by decide), fun h9 => ?_⟩
      clear h9
      refine hB _ _ _ _ _ (fun m10 hm10 => ?_)
      dsimp only [ugo, uwp, ust, uct, rfd, BdoOf, Nat.beq, lv_args, rlk, rs1, rs2, rdl, rky, rcd, rno, rsw, Value.category, List.filter, List.take, List.drop, List.reverse, List.reverseAux, List.cons_append, List.nil_append, Option.toList, Int.toNat, Int.reduceToNat, if_pos, if_neg, reduceIte, ↓reduceIte, Nat.reduceAdd, Nat.reduceEqDiff, Nat.reduceBEq, beq_self_eq_true, Bool.not_true, Bool.not_false, Bool.and_true, Bool.and_false, Bool.true_and, Bool.false_and, gI_sI, gI_sL, gI_sA, gI_sM, gL_sI, gL_sL, gL_sA, gL_sM, aI_sI, aI_sL, aI_sA, aI_sM, aL_sI, aL_sL, aL_sA, aL_sM, BdoOf_0, BdoOf_37, BdoOf_47, BdoOf_51, BdoOf_52, oi_0, oi_1, oi_20, oi_29, oi_5]; try dsimp only
      refine ⟨trivial, fun w11 τ11 hq11 => ?_⟩
      obtain ⟨hq11, hL11⟩ := hq11
      have hq11 := hq11 (accY z.1) n ⟨(by repeat (first | exact hR5 | refine SR.i ?_ rfl | refine SR.a ?_ rfl)), (by repeat (first | exact hg5 | refine FgR.i ?_ rfl | refine FgR.a ?_ rfl)), k9_5, by decide, (iff_of_false (by decide) (by (try simp only [frR_i, frR_a, ne_eq, Nat.reduceEqDiff, not_false_eq_true, hf5, hf4, hf3, hf2]); exact hne)), k6_5, (fun q => absurd q (by decide))⟩
      rcases hq11 with ⟨rfl, hn11, hF11⟩ | ⟨rfl, hn11, hR11, hg11, hf11, hOp11⟩
      · dsimp only [Option.toList, List.cons_append, List.nil_append, Nat.beq, gI_sI, gI_sL, gI_sA, gI_sM, gL_sI, gL_sL, gL_sA, gL_sM, aI_sI, aI_sL, aI_sA, aI_sM, aL_sI, aL_sL, aL_sA, aL_sM]
        refine ⟨fun h12 => ?_, fun h12 => absurd h12 (by decide)⟩
        clear h12
        refine hB _ _ _ _ _ (fun m13 hm13 => ?_)
        dsimp only [ugo, uwp, ust, uct, rfd, BdoOf, Nat.beq, lv_args, rlk, rs1, rs2, rdl, rky, rcd, rno, rsw, Value.category, List.filter, List.take, List.drop, List.reverse, List.reverseAux, List.cons_append, List.nil_append, Option.toList, Int.toNat, Int.reduceToNat, if_pos, if_neg, reduceIte, ↓reduceIte, Nat.reduceAdd, Nat.reduceEqDiff, Nat.reduceBEq, beq_self_eq_true, Bool.not_true, Bool.not_false, Bool.and_true, Bool.and_false, Bool.true_and, Bool.false_and, gI_sI, gI_sL, gI_sA, gI_sM, gL_sI, gL_sL, gL_sA, gL_sM, aI_sI, aI_sL, aI_sA, aI_sM, aL_sI, aL_sL, aL_sA, aL_sM, BdoOf_0, BdoOf_37, BdoOf_47, BdoOf_51, BdoOf_52, oi_0, oi_1, oi_20, oi_29, oi_5]; try dsimp only
        refine hB _ _ _ _ _ (fun m14 hm14 => ?_)
        dsimp only [ugo, uwp, ust, uct, rfd, BdoOf, Nat.beq, lv_args, rlk, rs1, rs2, rdl, rky, rcd, rno, rsw, Value.category, List.filter, List.take, List.drop, List.reverse, List.reverseAux, List.cons_append, List.nil_append, Option.toList, Int.toNat, Int.reduceToNat, if_pos, if_neg, reduceIte, ↓reduceIte, Nat.reduceAdd, Nat.reduceEqDiff, Nat.reduceBEq, beq_self_eq_true, Bool.not_true, Bool.not_false, Bool.and_true, Bool.and_false, Bool.true_and, Bool.false_and, gI_sI, gI_sL, gI_sA, gI_sM, gL_sI, gL_sL, gL_sA, gL_sM, aI_sI, aI_sL, aI_sA, aI_sM, aL_sI, aL_sL, aL_sA, aL_sM, BdoOf_0, BdoOf_37, BdoOf_47, BdoOf_51, BdoOf_52, oi_0, oi_1, oi_20, oi_29, oi_5]; try dsimp only
        unfold Qv_doOfZ
        try dsimp only
        refine StZ.o hPhi ?_
        rw [st_do' hnn.2.1 hcd, st_0 hn11]
        refine StQ.f hF11 ?_
        exact (by repeat (first | with_reducible exact GpY.rf | with_reducible refine GpY.tr ?_ (gd_fo _) | with_reducible refine GpY.tr ?_ (gd_ef _) | with_reducible refine GpY.tr ?_ (gd_cf _) | with_reducible refine GpY.tr ?_ (gd_wt _) | with_reducible refine GpY.tr ?_ (gd_xp _) | with_reducible refine GpY.tr ?_ (gd_acc _) | with_reducible refine GpY.tr ?_ (gd_rai _) | with_reducible refine GpY.tr ?_ (gd_e _) | with_reducible refine GpY.tr ?_ (gd_o _) | with_reducible refine GpY.tr ?_ (gd_c _) | with_reducible refine GpY.tr ?_ (gd_op _) | with_reducible refine GpY.tr ?_ (gd_clp gd_e _ _) | with_reducible refine GpY.tr ?_ (gd_tl _) | with_reducible refine GpY.tr ?_ (gd_sf _ _ _) | with_reducible refine GpY.tr ?_ (gd_cl _) | with_reducible refine GpY.tr ?_ (gd_pc _) | with_reducible refine GpY.tr ?_ (gd_st _) | with_reducible refine GpY.tr ?_ (gd_rw _) | with_reducible refine GpY.tr ?_ (gd_typ _) | with_reducible refine GpY.tr ?_ (gd_dcl _) | with_reducible refine GpY.tr ?_ (gd_va2 _) | with_reducible refine GpY.tr ?_ (gd_cnd _) | with_reducible refine GpY.tr ?_ (gd_tr1 _) | with_reducible refine GpY.tr ?_ (gd_tr2 (fun _ => gd_rw) _) | with_reducible refine GpY.tr ?_ (gd_tr3 (fun _ => gd_rw) _) | with_reducible refine GpY.tr ?_ (gd_fo1 _) | with_reducible refine GpY.tr ?_ (gd_fo2 _) | with_reducible refine GpY.tr ?_ (gd_fo3 _) | with_reducible refine GpY.tr ?_ (gd_fex _) | with_reducible refine GpY.tr ?_ (pg_var.1) | with_reducible refine GpY.tr ?_ (pg_cas.1) | exact GpY.rf))
      · dsimp only [Option.toList, List.cons_append, List.nil_append, Nat.beq, gI_sI, gI_sL, gI_sA, gI_sM, gL_sI, gL_sL, gL_sA, gL_sM, aI_sI, aI_sL, aI_sA, aI_sM, aL_sI, aL_sL, aL_sA, aL_sM]
        have hf11 : frR τ11 = (5 : Int) :: _ := hf11
        have hfi : fiS (accM (coM 29 (tnM z : Int) 0 (zAt z.1) (thM (beM 59 (lvN n) (coM 20 0 0 (zAt z.1) z))))) (snM z) = zAt z.1 := PgZ.fh hPg5 rfl rfl
        have hZf := BZ.fr (k := 5) (kd := 59) (lv := lvN n) (x := []) hZ hZ5 ((SgZ.e rfl).tr hPg5.1) ((congrArg Prod.fst (show (accM (coM 29 (tnM z : Int) 0 (zAt z.1) (thM (beM 59 (lvN n) (coM 20 0 0 (zAt z.1) z))))).2.2.2 = (thM (beM 59 (lvN n) (coM 20 0 0 (zAt z.1) z))).2.2.2 from k4_5)).trans rfl) ((congrArg (fun y => y.2.2.2) (show (accM (coM 29 (tnM z : Int) 0 (zAt z.1) (thM (beM 59 (lvN n) (coM 20 0 0 (zAt z.1) z))))).2.2.2 = (thM (beM 59 (lvN n) (coM 20 0 0 (zAt z.1) z))).2.2.2 from k4_5)).trans rfl) hu (by decide) rfl (fun q => absurd (show (5 : Int) = 7 from q) (by decide))
        have hZ11 : BZ N τ11 (arM (snM z) (accM (coM 29 (tnM z : Int) 0 (zAt z.1) (thM (beM 59 (lvN n) (coM 20 0 0 (zAt z.1) z)))))) ((frB 5 z []) :: F) ((frB 5 z []) :: F) := BZ.op (a := (frB 5 z [])) (F := F) (z := (arM (snM z) (accM (coM 29 (tnM z : Int) 0 (zAt z.1) (thM (beM 59 (lvN n) (coM 20 0 0 (zAt z.1) z))))))) (by repeat (first | exact hZf | refine BZ.i ?_ rfl | refine BZ.a ?_ rfl)) hOp11 hL11 rfl hkI (fun _ => ⟨hstI, (show itN (accM (coM 29 (tnM z : Int) 0 (zAt z.1) (thM (beM 59 (lvN n) (coM 20 0 0 (zAt z.1) z))))).2.1 (cnM z) = some (.inr (20, 0, 0, fiS (accM (coM 29 (tnM z : Int) 0 (zAt z.1) (thM (beM 59 (lvN n) (coM 20 0 0 (zAt z.1) z))))) (snM z), -1)) by rw [hfi]; exact hPg5.st), (show (aI _ 60 (tnM z)).toInt = fiS (accM (coM 29 (tnM z : Int) 0 (zAt z.1) (thM (beM 59 (lvN n) (coM 20 0 0 (zAt z.1) z))))) (snM z) by rw [hfi]; exact (congrArg Int32.toInt (congrFun r60_5 _)).trans r60_3)⟩) ⟨(fun q => absurd (show (5 : Int) = 7 from q) (by decide)), (fun q => absurd (show (5 : Int) = 0 from q) (by decide))⟩ (fun q => absurd (show (5 : Int) = 9 from q) (by decide))
        have hK11 : KtR τ11 (arM (snM z) (accM (coM 29 (tnM z : Int) 0 (zAt z.1) (thM (beM 59 (lvN n) (coM 20 0 0 (zAt z.1) z)))))) := KtR.z (by repeat (first | exact hK5 | refine KtR.i ?_ | refine KtR.a ?_ (by decide))) rfl rfl (fun a h1 h2 => hOp11.2.2.2.1 a (by omega))
        have hs11 : (arM (snM z) (accM (coM 29 (tnM z : Int) 0 (zAt z.1) (thM (beM 59 (lvN n) (coM 20 0 0 (zAt z.1) z)))))).1 = (accY z.1) := hs5
        have hPg11 : PgZ z (thM (beM 59 (lvN n) (coM 20 0 0 (zAt z.1) z))) (arM (snM z) (accM (coM 29 (tnM z : Int) 0 (zAt z.1) (thM (beM 59 (lvN n) (coM 20 0 0 (zAt z.1) z)))))) := PgZ.e hPg5 rfl rfl
        refine ⟨fun h15 => absurd h15 (by decide), fun h15 => ?_⟩
        clear h15
        refine hB _ _ _ _ _ (fun m16 hm16 => ?_)
        dsimp only [ugo, uwp, ust, uct, rfd, BdoOf, Nat.beq, lv_args, rlk, rs1, rs2, rdl, rky, rcd, rno, rsw, Value.category, List.filter, List.take, List.drop, List.reverse, List.reverseAux, List.cons_append, List.nil_append, Option.toList, Int.toNat, Int.reduceToNat, if_pos, if_neg, reduceIte, ↓reduceIte, Nat.reduceAdd, Nat.reduceEqDiff, Nat.reduceBEq, beq_self_eq_true, Bool.not_true, Bool.not_false, Bool.and_true, Bool.and_false, Bool.true_and, Bool.false_and, gI_sI, gI_sL, gI_sA, gI_sM, gL_sI, gL_sL, gL_sA, gL_sM, aI_sI, aI_sL, aI_sA, aI_sM, aL_sI, aL_sL, aL_sA, aL_sM, BdoOf_0, BdoOf_37, BdoOf_47, BdoOf_51, BdoOf_52, oi_0, oi_1, oi_20, oi_29, oi_5]; try dsimp only
        refine hB _ _ _ _ _ (fun m17 hm17 => ?_)
        dsimp only [ugo, uwp, ust, uct, rfd, BdoOf, Nat.beq, lv_args, rlk, rs1, rs2, rdl, rky, rcd, rno, rsw, Value.category, List.filter, List.take, List.drop, List.reverse, List.reverseAux, List.cons_append, List.nil_append, Option.toList, Int.toNat, Int.reduceToNat, if_pos, if_neg, reduceIte, ↓reduceIte, Nat.reduceAdd, Nat.reduceEqDiff, Nat.reduceBEq, beq_self_eq_true, Bool.not_true, Bool.not_false, Bool.and_true, Bool.and_false, Bool.true_and, Bool.false_and, gI_sI, gI_sL, gI_sA, gI_sM, gL_sI, gL_sL, gL_sA, gL_sM, aI_sI, aI_sL, aI_sA, aI_sM, aL_sI, aL_sL, aL_sA, aL_sM, BdoOf_0, BdoOf_37, BdoOf_47, BdoOf_51, BdoOf_52, oi_0, oi_1, oi_20, oi_29, oi_5]; try dsimp only
        unfold Qv_doOfZ
        try dsimp only
        exact Or.inr ⟨rfl, (arM (snM z) (accM (coM 29 (tnM z : Int) 0 (zAt z.1) (thM (beM 59 (lvN n) (coM 20 0 0 (zAt z.1) z)))))), (n - 1), (frB 5 z [] :: F), (by rw [show (arM (snM z) (accM (coM 29 (tnM z : Int) 0 (zAt z.1) (thM (beM 59 (lvN n) (coM 20 0 0 (zAt z.1) z)))))).1 = (accY z.1) from hs11]; exact (by repeat (first | exact hR11 | refine SR.i ?_ rfl | refine SR.a ?_ rfl))), FgR.ny (by repeat (first | exact hg11 | refine FgR.i ?_ rfl | refine FgR.a ?_ rfl)) hf11 (by decide) (Or.inl rfl), (by repeat (first | exact hZ11 | refine BZ.i ?_ rfl | refine BZ.a ?_ rfl)), (by repeat (first | exact hK11 | refine KtR.i ?_ | refine KtR.a ?_ (by decide))), hw, (fun q => absurd (show (5 : Int) = 7 from q) (by decide)), (by rw [show (arM (snM z) (accM (coM 29 (tnM z : Int) 0 (zAt z.1) (thM (beM 59 (lvN n) (coM 20 0 0 (zAt z.1) z)))))).1 = (accY z.1) from hs11]; exact GpY.a1 (by repeat (first | with_reducible exact GpY.rf | with_reducible refine GpY.tr ?_ (gd_fo _) | with_reducible refine GpY.tr ?_ (gd_ef _) | with_reducible refine GpY.tr ?_ (gd_cf _) | with_reducible refine GpY.tr ?_ (gd_wt _) | with_reducible refine GpY.tr ?_ (gd_xp _) | with_reducible refine GpY.tr ?_ (gd_acc _) | with_reducible refine GpY.tr ?_ (gd_rai _) | with_reducible refine GpY.tr ?_ (gd_e _) | with_reducible refine GpY.tr ?_ (gd_o _) | with_reducible refine GpY.tr ?_ (gd_c _) | with_reducible refine GpY.tr ?_ (gd_op _) | with_reducible refine GpY.tr ?_ (gd_clp gd_e _ _) | with_reducible refine GpY.tr ?_ (gd_tl _) | with_reducible refine GpY.tr ?_ (gd_sf _ _ _) | with_reducible refine GpY.tr ?_ (gd_cl _) | with_reducible refine GpY.tr ?_ (gd_pc _) | with_reducible refine GpY.tr ?_ (gd_st _) | with_reducible refine GpY.tr ?_ (gd_rw _) | with_reducible refine GpY.tr ?_ (gd_typ _) | with_reducible refine GpY.tr ?_ (gd_dcl _) | with_reducible refine GpY.tr ?_ (gd_va2 _) | with_reducible refine GpY.tr ?_ (gd_cnd _) | with_reducible refine GpY.tr ?_ (gd_tr1 _) | with_reducible refine GpY.tr ?_ (gd_tr2 (fun _ => gd_rw) _) | with_reducible refine GpY.tr ?_ (gd_tr3 (fun _ => gd_rw) _) | with_reducible refine GpY.tr ?_ (gd_fo1 _) | with_reducible refine GpY.tr ?_ (gd_fo2 _) | with_reducible refine GpY.tr ?_ (gd_fo3 _) | with_reducible refine GpY.tr ?_ (gd_fex _) | with_reducible refine GpY.tr ?_ (pg_var.1) | with_reducible refine GpY.tr ?_ (pg_cas.1) | exact GpY.rf)) hR.1.a5.2 ha1), (pc_stM (by simp [frB])).trans (sm_do' hnn.2.1 hcd).symm⟩
  next => exact hP.elim
theorem w_doOfZ : UMet 55 (fun _ _ => True) Qw_doOfZ := fun A1 σ _ w τ h N z n F hP => v_doOfZ N z n F A1 σ hP w τ h
