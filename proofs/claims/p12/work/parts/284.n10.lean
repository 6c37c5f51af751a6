def Pv_closeRowZ (N : Int → Int) (z : ZS) (n : Nat) (F : List FrZ) (a : FrZ) : UP1 := fun A1 σ => match A1 with
  | [.int sort] => SR σ z.1 n ∧ 0 < gI σ 62 ∧ a.1 = sort.toInt ∧ (sort = 0 ∨ sort = 1 ∨ sort = 9 ∨ sort = 10 ∨ sort = 11) ∧ codY z.1 = 3 ∧ BZ N σ z (a :: F) (a :: F) ∧ KtR σ z ∧ WfF F ∧ 1 ≤ zAt z.1
  | _ => False
def Qv_closeRowZ (N : Int → Int) (z : ZS) (n : Nat) (F : List FrZ) (a : FrZ) : UQ1 := fun A1 σ w τ => match A1 with
  | [.int sort] => StZ N τ (clF N a F n (z, a.2.2.2.1.getD 0 0)) w
  | _ => False
def Qw_closeRowZ : UQ1 := fun A1 σ w τ => ∀ (N : Int → Int) (z : ZS) (n : Nat) (F : List FrZ) (a : FrZ), Pv_closeRowZ N z n F a A1 σ → Qv_closeRowZ N z n F a A1 σ w τ
set_option maxRecDepth 100000 in
set_option maxHeartbeats 4000000 in
theorem v_closeRowZ (N : Int → Int) (z : ZS) (n : Nat) (F : List FrZ) (a : FrZ) : UMet 67 (Pv_closeRowZ N z n F a) (Qv_closeRowZ N z n F a) := by
  refine UMet.by BcloseRow [(68, (fun _ _ => True), (LqR Qw_closeTryZ)), (61, (fun _ _ => True), (LqR Qw_closedZ)), (20, (fun _ _ => True), (LqR Qw_emitZ)), (42, (fun _ _ => True), (LqR Qw_leaveZ)), (17, (fun _ _ => True), (LqR Qw_take))] rfl (ucc (UMet.aL ck_P rfl w_closeTryZ) (ucc (UMet.aL ck_P rfl w_closedZ) (ucc (UMet.aL ck_P rfl w_emitZ) (ucc (UMet.aL ck_P rfl w_leaveZ) (ucc (UMet.aL ck_P rfl w_take) uc0))))) ?_
  intro A1 σ hP K hB hW
  unfold Pv_closeRowZ at hP
  split at hP
  next sort =>
    obtain ⟨hR, hop, ha, hs, hcd, hZ, hK, hw, ha1⟩ := hP
    have hT := hZ.1.top hop
    have hC : (gI σ 14).toInt = zAt z.1 := hR.1.2.1.1.symm
    have hkT : ((aI σ 64 (gI σ 62 - 1).toNatClampNeg)).toInt = (a.2.2.1.2 : Int) := hT.2.1
    have hkl : a.2.2.1.2 < tnM z := hZ.1.2.2.2.1.1
    have hajl := hZ.1.ak a List.mem_cons_self
    have hZs := BZ.qBd (i := owF a) (v := a.2.2.2.1.getD 0 0) hZ
    have hrw : rwkY a.1 := by rw [ha]; rcases hs with rfl | rfl | rfl | rfl | rfl <;> decide
    have hFq := frR_pop hop
    rw [show aI σ 63 (gI σ 62 - 1).toNatClampNeg = sort from Int32.toInt_inj.mp (hT.1.trans ha)] at hFq
    have hPhi : (clF N a F n (z, a.2.2.2.1.getD 0 0)).1 = clY sort.toInt (frR σ).tail n z.1 := by
      rw [lf_clb hrw hw, ha, hZ.frm]
      rfl
    intro n0_
    refine hB _ _ _ _ _ (fun m1 hm1 => ?_)
    dsimp only [ugo, uwp, ust, uct, rfd, BcloseRow, Nat.beq, lv_args, rlk, rs1, rs2, rdl, rky, rcd, rno, rsw, Value.category, List.filter, List.take, List.drop, List.reverse, List.reverseAux, List.cons_append, List.nil_append, Option.toList, Int.toNat, Int.reduceToNat, if_pos, if_neg, reduceIte, ↓reduceIte, Nat.reduceAdd, Nat.reduceEqDiff, Nat.reduceBEq, beq_self_eq_true, Bool.not_true, Bool.not_false, Bool.and_true, Bool.and_false, Bool.true_and, Bool.false_and, gI_sI, gI_sL, gI_sA, gI_sM, gL_sI, gL_sL, gL_sA, gL_sM, aI_sI, aI_sL, aI_sA, aI_sM, aL_sI, aL_sL, aL_sA, aL_sM, BcloseRow_0, BcloseRow_37, BcloseRow_52, BcloseRow_53, BcloseRow_65, BcloseRow_67, BcloseRow_71, BcloseRow_117, BcloseRow_122, BcloseRow_128, oi_0, oi_1, oi_1000, oi_3, oi_54, oi_9]; try dsimp only
    intro p2
    intro p3
    refine ⟨fun h4 => ?_, fun h4 => ?_⟩
    · refine hB _ _ _ _ _ (fun m5 hm5 => ?_)
      dsimp only [ugo, uwp, ust, uct, rfd, BcloseRow, Nat.beq, lv_args, rlk, rs1, rs2, rdl, rky, rcd, rno, rsw, Value.category, List.filter, List.take, List.drop, List.reverse, List.reverseAux, List.cons_append, List.nil_append, Option.toList, Int.toNat, Int.reduceToNat, if_pos, if_neg, reduceIte, ↓reduceIte, Nat.reduceAdd, Nat.reduceEqDiff, Nat.reduceBEq, beq_self_eq_true, Bool.not_true, Bool.not_false, Bool.and_true, Bool.and_false, Bool.true_and, Bool.false_and, gI_sI, gI_sL, gI_sA, gI_sM, gL_sI, gL_sL, gL_sA, gL_sM, aI_sI, aI_sL, aI_sA, aI_sM, aL_sI, aL_sL, aL_sA, aL_sM, BcloseRow_0, BcloseRow_37, BcloseRow_52, BcloseRow_53, BcloseRow_65, BcloseRow_67, BcloseRow_71, BcloseRow_117, BcloseRow_122, BcloseRow_128, oi_0, oi_1, oi_1000, oi_3, oi_54, oi_9]; try dsimp only
      refine hB _ _ _ _ _ (fun m6 hm6 => ?_)
      dsimp only [ugo, uwp, ust, uct, rfd, BcloseRow, Nat.beq, lv_args, rlk, rs1, rs2, rdl, rky, rcd, rno, rsw, Value.category, List.filter, List.take, List.drop, List.reverse, List.reverseAux, List.cons_append, List.nil_append, Option.toList, Int.toNat, Int.reduceToNat, if_pos, if_neg, reduceIte, ↓reduceIte, Nat.reduceAdd, Nat.reduceEqDiff, Nat.reduceBEq, beq_self_eq_true, Bool.not_true, Bool.not_false, Bool.and_true, Bool.and_false, Bool.true_and, Bool.false_and, gI_sI, gI_sL, gI_sA, gI_sM, gL_sI, gL_sL, gL_sA, gL_sM, aI_sI, aI_sL, aI_sA, aI_sM, aL_sI, aL_sL, aL_sA, aL_sM, BcloseRow_0, BcloseRow_37, BcloseRow_52, BcloseRow_53, BcloseRow_65, BcloseRow_67, BcloseRow_71, BcloseRow_117, BcloseRow_122, BcloseRow_128, oi_0, oi_1, oi_1000, oi_3, oi_54, oi_9]; try dsimp only
      refine ⟨trivial, fun w7 τ7 hq7 => ?_⟩
      obtain ⟨hq7, hL7⟩ := hq7
      obtain ⟨rfl, hLv7⟩ := hq7 trivial
      have hR7 := SR.lv (e := 0) (s := z.1) (n := n) (by repeat (first | exact hR | refine SR.i ?_ rfl | refine SR.a ?_ rfl)) hLv7
      have hf7 := frR_lv hLv7
      dsimp only [Option.toList, List.cons_append, List.nil_append, Nat.beq, gI_sI, gI_sL, gI_sA, gI_sM, gL_sI, gL_sL, gL_sA, gL_sM, aI_sI, aI_sL, aI_sA, aI_sM, aL_sI, aL_sL, aL_sA, aL_sM]
      obtain ⟨hZl, hkn7⟩ := BZ.lv (a := a) (K := F) (F := a :: F) (N := N) (z := (seM (owF a) (sBd (a.2.2.2.1.getD 0 0)) z)) (by repeat (first | exact hZs | refine BZ.i ?_ rfl | refine BZ.a ?_ rfl)) hLv7 hL7 (sc_row hrw) (by rw [hkT, nu_8 (show ¬ 9 ≤ a.1 by rw [ha]; rcases hs with rfl | rfl | rfl | rfl | rfl <;> first | decide | (exfalso; lia))]) (by rw [hC]; omega)
      rw [hC] at hZl
      have hKl : KtR τ7 (veM (zAt z.1) a.2.2.2.2 (seM (owF a) (sBd (a.2.2.2.1.getD 0 0)) z)) := KtR.z (σ := σ) (z := z) hK rfl rfl (fun a h1 h2 => hLv7.2.1 a (by omega))
      have hknl : KnZ (fun v => (aI τ7 47 v).toInt) F a.2.2.2.2 := hkn7
      have r60_7 : aI τ7 60 = aI σ 60 := hLv7.2.1 60 (by decide)
      have r22_7 : aI τ7 22 = aI σ 22 := hLv7.2.1 22 (by decide)
      have r47_7 : aI τ7 47 = aI τ7 47 := rfl
      refine ⟨trivial, fun w8 τ8 hq8 => ?_⟩
      obtain ⟨hq8, hL8⟩ := hq8
      have hq8 := hq8 _ z.1 n ⟨(SR.x (e_ := 0) (by repeat (first | exact hR7 | refine SR.i ?_ rfl | refine SR.a ?_ rfl))), by omega, by omega⟩
      rcases hq8 with ⟨rfl, hF8⟩ | ⟨rfl, hX8, hz8, hS8⟩
      · dsimp only [Option.toList, List.cons_append, List.nil_append, Nat.beq, gI_sI, gI_sL, gI_sA, gI_sM, gL_sI, gL_sL, gL_sA, gL_sM, aI_sI, aI_sL, aI_sA, aI_sM, aL_sI, aL_sL, aL_sA, aL_sM]
        refine ⟨fun h9 => absurd h9 (by decide), fun h9 => ?_⟩
        clear h9
        refine hB _ _ _ _ _ (fun m10 hm10 => ?_)
        dsimp only [ugo, uwp, ust, uct, rfd, BcloseRow, Nat.beq, lv_args, rlk, rs1, rs2, rdl, rky, rcd, rno, rsw, Value.category, List.filter, List.take, List.drop, List.reverse, List.reverseAux, List.cons_append, List.nil_append, Option.toList, Int.toNat, Int.reduceToNat, if_pos, if_neg, reduceIte, ↓reduceIte, Nat.reduceAdd, Nat.reduceEqDiff, Nat.reduceBEq, beq_self_eq_true, Bool.not_true, Bool.not_false, Bool.and_true, Bool.and_false, Bool.true_and, Bool.false_and, gI_sI, gI_sL, gI_sA, gI_sM, gL_sI, gL_sL, gL_sA, gL_sM, aI_sI, aI_sL, aI_sA, aI_sM, aL_sI, aL_sL, aL_sA, aL_sM, BcloseRow_0, BcloseRow_37, BcloseRow_52, BcloseRow_53, BcloseRow_65, BcloseRow_67, BcloseRow_71, BcloseRow_117, BcloseRow_122, BcloseRow_128, oi_0, oi_1, oi_1000, oi_3, oi_54, oi_9]; try dsimp only
        unfold Qv_closeRowZ
        try dsimp only
        refine StZ.o hPhi ?_
        rw [cl_ct hcd]
        refine StQ.f hF8 ?_
        exact gd_ct _
      · dsimp only [Option.toList, List.cons_append, List.nil_append, Nat.beq, gI_sI, gI_sL, gI_sA, gI_sM, gL_sI, gL_sL, gL_sA, gL_sM, aI_sI, aI_sL, aI_sA, aI_sM, aL_sI, aL_sL, aL_sA, aL_sM]
        have hR8 := SR.kr (e_ := 0) (by repeat (first | exact hR7 | refine SR.i ?_ rfl | refine SR.a ?_ rfl)) hX8 acc2
        have hf8 := frR_kr hX8
        have hZ8 : BZ N τ8 (accM (veM (zAt z.1) a.2.2.2.2 (seM (owF a) (sBd (a.2.2.2.1.getD 0 0)) z))) (a :: F) (a :: F) := BZ.tk (by repeat (first | exact hZl | refine BZ.i ?_ rfl | refine BZ.a ?_ rfl)) hS8 hL8
        have hK8 : KtR τ8 (accM (veM (zAt z.1) a.2.2.2.2 (seM (owF a) (sBd (a.2.2.2.1.getD 0 0)) z))) := KtR.tk (by repeat (first | exact hKl | refine KtR.i ?_ | refine KtR.a ?_ (by decide))) hS8
        have hs8 : (accM (veM (zAt z.1) a.2.2.2.2 (seM (owF a) (sBd (a.2.2.2.1.getD 0 0)) z))).1 = (accY z.1) := congrArg accY rfl
        have r60_8 : aI τ8 60 = _ := (hS8.2 60).trans r60_7
        have r47_8 : aI τ8 47 = aI τ7 47 := (hS8.2 47).trans r47_7
        refine ⟨fun h11 => ?_, fun h11 => absurd h11 (by decide)⟩
        clear h11
        refine hB _ _ _ _ _ (fun m12 hm12 => ?_)
        dsimp only [ugo, uwp, ust, uct, rfd, BcloseRow, Nat.beq, lv_args, rlk, rs1, rs2, rdl, rky, rcd, rno, rsw, Value.category, List.filter, List.take, List.drop, List.reverse, List.reverseAux, List.cons_append, List.nil_append, Option.toList, Int.toNat, Int.reduceToNat, if_pos, if_neg, reduceIte, ↓reduceIte, Nat.reduceAdd, Nat.reduceEqDiff, Nat.reduceBEq, beq_self_eq_true, Bool.not_true, Bool.not_false, Bool.and_true, Bool.and_false, Bool.true_and, Bool.false_and, gI_sI, gI_sL, gI_sA, gI_sM, gL_sI, gL_sL, gL_sA, gL_sM, aI_sI, aI_sL, aI_sA, aI_sM, aL_sI, aL_sL, aL_sA, aL_sM, BcloseRow_0, BcloseRow_37, BcloseRow_52, BcloseRow_53, BcloseRow_65, BcloseRow_67, BcloseRow_71, BcloseRow_117, BcloseRow_122, BcloseRow_128, oi_0, oi_1, oi_1000, oi_3, oi_54, oi_9]; try dsimp only
        refine ⟨fun h13 => ?_, fun h13 => ?_⟩
        · refine hB _ _ _ _ _ (fun m14 hm14 => ?_)
          dsimp only [ugo, uwp, ust, uct, rfd, BcloseRow, Nat.beq, lv_args, rlk, rs1, rs2, rdl, rky, rcd, rno, rsw, Value.category, List.filter, List.take, List.drop, List.reverse, List.reverseAux, List.cons_append, List.nil_append, Option.toList, Int.toNat, Int.reduceToNat, if_pos, if_neg, reduceIte, ↓reduceIte, Nat.reduceAdd, Nat.reduceEqDiff, Nat.reduceBEq, beq_self_eq_true, Bool.not_true, Bool.not_false, Bool.and_true, Bool.and_false, Bool.true_and, Bool.false_and, gI_sI, gI_sL, gI_sA, gI_sM, gL_sI, gL_sL, gL_sA, gL_sM, aI_sI, aI_sL, aI_sA, aI_sM, aL_sI, aL_sL, aL_sA, aL_sM, BcloseRow_0, BcloseRow_37, BcloseRow_52, BcloseRow_53, BcloseRow_65, BcloseRow_67, BcloseRow_71, BcloseRow_117, BcloseRow_122, BcloseRow_128, oi_0, oi_1, oi_1000, oi_3, oi_54, oi_9]; try dsimp only
          refine ⟨fun h15 => ?_, fun h15 => ?_⟩
          · refine hB _ _ _ _ _ (fun m16 hm16 => ?_)
            dsimp only [ugo, uwp, ust, uct, rfd, BcloseRow, Nat.beq, lv_args, rlk, rs1, rs2, rdl, rky, rcd, rno, rsw, Value.category, List.filter, List.take, List.drop, List.reverse, List.reverseAux, List.cons_append, List.nil_append, Option.toList, Int.toNat, Int.reduceToNat, if_pos, if_neg, reduceIte, ↓reduceIte, Nat.reduceAdd, Nat.reduceEqDiff, Nat.reduceBEq, beq_self_eq_true, Bool.not_true, Bool.not_false, Bool.and_true, Bool.and_false, Bool.true_and, Bool.false_and, gI_sI, gI_sL, gI_sA, gI_sM, gL_sI, gL_sL, gL_sA, gL_sM, aI_sI, aI_sL, aI_sA, aI_sM, aL_sI, aL_sL, aL_sA, aL_sM, BcloseRow_0, BcloseRow_37, BcloseRow_52, BcloseRow_53, BcloseRow_65, BcloseRow_67, BcloseRow_71, BcloseRow_117, BcloseRow_122, BcloseRow_128, oi_0, oi_1, oi_1000, oi_3, oi_54, oi_9]; try dsimp only
            have h9a : 9 ≤ a.1 ∧ a.1 ≤ 11 := by rw [ha]; rcases hs with rfl | rfl | rfl | rfl | rfl <;> first | decide | (exfalso; lia)
            refine ⟨trivial, fun w17 τ17 hq17 => ?_⟩
            obtain ⟨hq17, hL17⟩ := hq17
            have hq17 : StZ N τ17 _ w17 := hq17 N (accM (veM (zAt z.1) a.2.2.2.2 (seM (owF a) (sBd (a.2.2.2.1.getD 0 0)) z))) n F a ⟨(by rw [show (accM (veM (zAt z.1) a.2.2.2.2 (seM (owF a) (sBd (a.2.2.2.1.getD 0 0)) z))).1 = (accY z.1) from hs8]; exact (by repeat (first | exact hR8 | refine SR.i ?_ rfl | refine SR.a ?_ rfl))), (by rw [hS8.1 62 (by decide), hLv7.1 62]; exact hop), ha, (by lia), hkT, (hT.2.2 (by omega)).1, (by repeat (first | exact hZ8 | refine BZ.i ?_ rfl | refine BZ.a ?_ rfl)), (by repeat (first | exact hK8 | refine KtR.i ?_ | refine KtR.a ?_ (by decide))), (by have q := hknl; rw [← r47_8] at q; exact q), rfl, hw, (by rw [show (accM (veM (zAt z.1) a.2.2.2.2 (seM (owF a) (sBd (a.2.2.2.1.getD 0 0)) z))).1 = (accY z.1) from hs8]; exact GpY.a1 (by repeat (first | with_reducible exact GpY.rf | with_reducible refine GpY.tr ?_ (gd_fo _) | with_reducible refine GpY.tr ?_ (gd_ef _) | with_reducible refine GpY.tr ?_ (gd_cf _) | with_reducible refine GpY.tr ?_ (gd_wt _) | with_reducible refine GpY.tr ?_ (gd_xp _) | with_reducible refine GpY.tr ?_ (gd_acc _) | with_reducible refine GpY.tr ?_ (gd_rai _) | with_reducible refine GpY.tr ?_ (gd_e _) | with_reducible refine GpY.tr ?_ (gd_o _) | with_reducible refine GpY.tr ?_ (gd_c _) | with_reducible refine GpY.tr ?_ (gd_op _) | with_reducible refine GpY.tr ?_ (gd_clp gd_e _ _) | with_reducible refine GpY.tr ?_ (gd_tl _) | with_reducible refine GpY.tr ?_ (gd_sf _ _ _) | with_reducible refine GpY.tr ?_ (gd_cl _) | with_reducible refine GpY.tr ?_ (gd_pc _) | with_reducible refine GpY.tr ?_ (gd_st _) | with_reducible refine GpY.tr ?_ (gd_rw _) | with_reducible refine GpY.tr ?_ (gd_typ _) | with_reducible refine GpY.tr ?_ (gd_dcl _) | with_reducible refine GpY.tr ?_ (gd_va2 _) | with_reducible refine GpY.tr ?_ (gd_cnd _) | with_reducible refine GpY.tr ?_ (gd_tr1 _) | with_reducible refine GpY.tr ?_ (gd_tr2 (fun _ => gd_rw) _) | with_reducible refine GpY.tr ?_ (gd_tr3 (fun _ => gd_rw) _) | with_reducible refine GpY.tr ?_ (gd_fo1 _) | with_reducible refine GpY.tr ?_ (gd_fo2 _) | with_reducible refine GpY.tr ?_ (gd_fo3 _) | with_reducible refine GpY.tr ?_ (gd_fex _) | with_reducible refine GpY.tr ?_ (gp_varZ) | with_reducible refine GpY.tr ?_ (gp_casZ) | exact GpY.rf)) hR.1.a5.2 ha1)⟩
            have hv17 : w17 = some (.int 0) ∨ w17 = some (.int 1) := hq17.imp (fun q => q.1) (fun q => q.1)
            rcases hv17 with rfl | rfl
            · dsimp only [Option.toList, List.cons_append, List.nil_append, Nat.beq, gI_sI, gI_sL, gI_sA, gI_sM, gL_sI, gL_sL, gL_sA, gL_sM, aI_sI, aI_sL, aI_sA, aI_sM, aL_sI, aL_sL, aL_sA, aL_sM]
              unfold Qv_closeRowZ
              try dsimp only
              rw [cl_ctF (by omega) hcd]
              have e9 := ow_9 h9a
              have hq_ := hq17
              have ez : t9M a.2.1 a.2.2.2.1 a.2.2.2.2 z = unM (owF a) (accM (veM (zAt z.1) a.2.2.2.2 (seM (owF a) (sBd (a.2.2.2.1.getD 0 0)) z))) := by rw [e9]; rfl
              rw [ez]
              exact hq_
            · dsimp only [Option.toList, List.cons_append, List.nil_append, Nat.beq, gI_sI, gI_sL, gI_sA, gI_sM, gL_sI, gL_sL, gL_sA, gL_sM, aI_sI, aI_sL, aI_sA, aI_sM, aL_sI, aL_sL, aL_sA, aL_sM]
              unfold Qv_closeRowZ
              try dsimp only
              rw [cl_ctF (by omega) hcd]
              have e9 := ow_9 h9a
              have hq_ := hq17
              have ez : t9M a.2.1 a.2.2.2.1 a.2.2.2.2 z = unM (owF a) (accM (veM (zAt z.1) a.2.2.2.2 (seM (owF a) (sBd (a.2.2.2.1.getD 0 0)) z))) := by rw [e9]; rfl
              rw [ez]
              exact hq_
          · refine hB _ _ _ _ _ (fun m18 hm18 => ?_)
            dsimp only [ugo, uwp, ust, uct, rfd, BcloseRow, Nat.beq, lv_args, rlk, rs1, rs2, rdl, rky, rcd, rno, rsw, Value.category, List.filter, List.take, List.drop, List.reverse, List.reverseAux, List.cons_append, List.nil_append, Option.toList, Int.toNat, Int.reduceToNat, if_pos, if_neg, reduceIte, ↓reduceIte, Nat.reduceAdd, Nat.reduceEqDiff, Nat.reduceBEq, beq_self_eq_true, Bool.not_true, Bool.not_false, Bool.and_true, Bool.and_false, Bool.true_and, Bool.false_and, gI_sI, gI_sL, gI_sA, gI_sM, gL_sI, gL_sL, gL_sA, gL_sM, aI_sI, aI_sL, aI_sA, aI_sM, aL_sI, aL_sL, aL_sA, aL_sM, BcloseRow_0, BcloseRow_37, BcloseRow_52, BcloseRow_53, BcloseRow_65, BcloseRow_67, BcloseRow_71, BcloseRow_117, BcloseRow_122, BcloseRow_128, oi_0, oi_1, oi_1000, oi_3, oi_54, oi_9]; try dsimp only
            have h1a : a.1 = 1 := by rw [ha, show sort = 1 by lia]; rfl
            refine ⟨trivial, fun w19 τ19 hq19 => ?_⟩
            obtain ⟨hq19, hL19⟩ := hq19
            have hq19 : StZ N τ19 _ w19 := hq19 N (accM (veM (zAt z.1) a.2.2.2.2 (seM (owF a) (sBd (a.2.2.2.1.getD 0 0)) z))) n F a ⟨(by rw [show (accM (veM (zAt z.1) a.2.2.2.2 (seM (owF a) (sBd (a.2.2.2.1.getD 0 0)) z))).1 = (accY z.1) from hs8]; exact (by repeat (first | exact hR8 | refine SR.i ?_ rfl | refine SR.a ?_ rfl))), (by rw [hS8.1 62 (by decide), hLv7.1 62]; exact hop), (by repeat (first | exact hZ8 | refine BZ.i ?_ rfl | refine BZ.a ?_ rfl)), (by repeat (first | exact hK8 | refine KtR.i ?_ | refine KtR.a ?_ (by decide))), (by have q := hknl; rw [← r47_8] at q; exact q), Or.inl h1a, hw, (by rw [show (accM (veM (zAt z.1) a.2.2.2.2 (seM (owF a) (sBd (a.2.2.2.1.getD 0 0)) z))).1 = (accY z.1) from hs8]; exact GpY.a1 (by repeat (first | with_reducible exact GpY.rf | with_reducible refine GpY.tr ?_ (gd_fo _) | with_reducible refine GpY.tr ?_ (gd_ef _) | with_reducible refine GpY.tr ?_ (gd_cf _) | with_reducible refine GpY.tr ?_ (gd_wt _) | with_reducible refine GpY.tr ?_ (gd_xp _) | with_reducible refine GpY.tr ?_ (gd_acc _) | with_reducible refine GpY.tr ?_ (gd_rai _) | with_reducible refine GpY.tr ?_ (gd_e _) | with_reducible refine GpY.tr ?_ (gd_o _) | with_reducible refine GpY.tr ?_ (gd_c _) | with_reducible refine GpY.tr ?_ (gd_op _) | with_reducible refine GpY.tr ?_ (gd_clp gd_e _ _) | with_reducible refine GpY.tr ?_ (gd_tl _) | with_reducible refine GpY.tr ?_ (gd_sf _ _ _) | with_reducible refine GpY.tr ?_ (gd_cl _) | with_reducible refine GpY.tr ?_ (gd_pc _) | with_reducible refine GpY.tr ?_ (gd_st _) | with_reducible refine GpY.tr ?_ (gd_rw _) | with_reducible refine GpY.tr ?_ (gd_typ _) | with_reducible refine GpY.tr ?_ (gd_dcl _) | with_reducible refine GpY.tr ?_ (gd_va2 _) | with_reducible refine GpY.tr ?_ (gd_cnd _) | with_reducible refine GpY.tr ?_ (gd_tr1 _) | with_reducible refine GpY.tr ?_ (gd_tr2 (fun _ => gd_rw) _) | with_reducible refine GpY.tr ?_ (gd_tr3 (fun _ => gd_rw) _) | with_reducible refine GpY.tr ?_ (gd_fo1 _) | with_reducible refine GpY.tr ?_ (gd_fo2 _) | with_reducible refine GpY.tr ?_ (gd_fo3 _) | with_reducible refine GpY.tr ?_ (gd_fex _) | with_reducible refine GpY.tr ?_ (gp_varZ) | with_reducible refine GpY.tr ?_ (gp_casZ) | exact GpY.rf)) hR.1.a5.2 ha1), (hT.2.2 (by omega)).1⟩
            have hv19 : w19 = some (.int 0) ∨ w19 = some (.int 1) := hq19.imp (fun q => q.1) (fun q => q.1)
            rcases hv19 with rfl | rfl
            · dsimp only [Option.toList, List.cons_append, List.nil_append, Nat.beq, gI_sI, gI_sL, gI_sA, gI_sM, gL_sI, gL_sL, gL_sA, gL_sM, aI_sI, aI_sL, aI_sA, aI_sM, aL_sI, aL_sL, aL_sA, aL_sM]
              unfold Qv_closeRowZ
              try dsimp only
              have h1a : a.1 = 1 := by rw [ha, show sort = 1 by lia]; rfl
              have hEq : clF N a F n (z, a.2.2.2.1.getD 0 0) = sfM N F (n + 1) (enM a.2.1 a.2.2.1.1 (accM (veM (zAt z.1) a.2.2.2.2 (unM a.2.1 (seM a.2.1 (sBd (a.2.2.2.1.getD 0 0)) z))))) := by
                obtain ⟨k_, j, c, x, out⟩ := a
                have e : k_ = 1 := h1a
                subst e
                exact cl_1M hcd
              rw [hEq]
              have hq_ := hq19
              rw [show owF a = a.2.1 from ow_1 (by omega)] at hq_
              exact hq_
            · dsimp only [Option.toList, List.cons_append, List.nil_append, Nat.beq, gI_sI, gI_sL, gI_sA, gI_sM, gL_sI, gL_sL, gL_sA, gL_sM, aI_sI, aI_sL, aI_sA, aI_sM, aL_sI, aL_sL, aL_sA, aL_sM]
              unfold Qv_closeRowZ
              try dsimp only
              have h1a : a.1 = 1 := by rw [ha, show sort = 1 by lia]; rfl
              have hEq : clF N a F n (z, a.2.2.2.1.getD 0 0) = sfM N F (n + 1) (enM a.2.1 a.2.2.1.1 (accM (veM (zAt z.1) a.2.2.2.2 (unM a.2.1 (seM a.2.1 (sBd (a.2.2.2.1.getD 0 0)) z))))) := by
                obtain ⟨k_, j, c, x, out⟩ := a
                have e : k_ = 1 := h1a
                subst e
                exact cl_1M hcd
              rw [hEq]
              have hq_ := hq19
              rw [show owF a = a.2.1 from ow_1 (by omega)] at hq_
              exact hq_
        · refine hB _ _ _ _ _ (fun m20 hm20 => ?_)
          dsimp only [ugo, uwp, ust, uct, rfd, BcloseRow, Nat.beq, lv_args, rlk, rs1, rs2, rdl, rky, rcd, rno, rsw, Value.category, List.filter, List.take, List.drop, List.reverse, List.reverseAux, List.cons_append, List.nil_append, Option.toList, Int.toNat, Int.reduceToNat, if_pos, if_neg, reduceIte, ↓reduceIte, Nat.reduceAdd, Nat.reduceEqDiff, Nat.reduceBEq, beq_self_eq_true, Bool.not_true, Bool.not_false, Bool.and_true, Bool.and_false, Bool.true_and, Bool.false_and, gI_sI, gI_sL, gI_sA, gI_sM, gL_sI, gL_sL, gL_sA, gL_sM, aI_sI, aI_sL, aI_sA, aI_sM, aL_sI, aL_sL, aL_sA, aL_sM, BcloseRow_0, BcloseRow_37, BcloseRow_52, BcloseRow_53, BcloseRow_65, BcloseRow_67, BcloseRow_71, BcloseRow_117, BcloseRow_122, BcloseRow_128, oi_0, oi_1, oi_1000, oi_3, oi_54, oi_9]; try dsimp only
          have h0a : a.1 = 0 := by rw [ha, show sort = 0 by lia]; rfl
          have hLb := hZ.2.1.2.2.1 a List.mem_cons_self
          intro p21
          refine ⟨trivial, fun w22 τ22 hq22 => ?_⟩
          obtain ⟨hq22, hL22⟩ := hq22
          obtain ⟨rfl, hEz22⟩ := hq22 trivial
          have hE22 := hEz22.1
          have hR22 := SR.em (e_ := 0) (s := (accY z.1)) (n := n) (by repeat (first | exact hR8 | refine SR.i ?_ rfl | refine SR.a ?_ rfl)) hE22
          have hf22 := frR_em hE22
          dsimp only [Option.toList, List.cons_append, List.nil_append, Nat.beq, gI_sI, gI_sL, gI_sA, gI_sM, gL_sI, gL_sL, gL_sA, gL_sM, aI_sI, aI_sL, aI_sA, aI_sM, aL_sI, aL_sL, aL_sA, aL_sM]
          have hZ22 : BZ N τ22 (coM 54 (a.2.2.2.1.getD 4 0) 0 (a.2.2.2.1.getD 5 0) (accM (veM (zAt z.1) a.2.2.2.2 (seM (owF a) (sBd (a.2.2.2.1.getD 0 0)) z)))) (a :: F) (a :: F) := BZ.co (x := ((54 : Int), ((a.2.2.2.1.getD 4 0) : Int), (0 : Int), ((a.2.2.2.1.getD 5 0) : Int), ((-1) : Int))) (by repeat (first | exact hZ8 | refine BZ.i ?_ rfl | refine BZ.a ?_ rfl)) hEz22 hL22 rfl ((show (gI τ8 36 - 1).toInt = _ by rw [hS8.1 36 (by decide), hLv7.1 36]; exact (hLb.2 h0a).1)) rfl ((show (aI τ8 37 (gI τ8 36 - 1).toNatClampNeg).toInt = _ by rw [hS8.1 36 (by decide), hS8.2 37, hLv7.1 36, hLv7.2.1 37 (by decide)]; exact (hLb.2 h0a).2)) (show ¬ (54 : Int) = 51 by decide)
          have hK22 : KtR τ22 (coM 54 (a.2.2.2.1.getD 4 0) 0 (a.2.2.2.1.getD 5 0) (accM (veM (zAt z.1) a.2.2.2.2 (seM (owF a) (sBd (a.2.2.2.1.getD 0 0)) z)))) := KtR.en (x := ((54 : Int), ((a.2.2.2.1.getD 4 0) : Int), (0 : Int), ((a.2.2.2.1.getD 5 0) : Int), ((-1) : Int))) (by repeat (first | exact hK8 | refine KtR.i ?_ | refine KtR.a ?_ (by decide))) (emK hEz22) (show thO 54 = false by decide)
          have hs22 : (coM 54 (a.2.2.2.1.getD 4 0) 0 (a.2.2.2.1.getD 5 0) (accM (veM (zAt z.1) a.2.2.2.2 (seM (owF a) (sBd (a.2.2.2.1.getD 0 0)) z)))).1 = (accY z.1) := hs8
          have r60_22 : aI τ22 60 = _ := (hE22.2.2.2.2.1 60 (by omega)).trans r60_8
          have r47_22 : aI τ22 47 = aI τ7 47 := (hE22.2.2.2.2.1 47 (by omega)).trans r47_8
          have h62_ : 0 < gI τ22 62 := by rw [hE22.1 62 (by decide), hS8.1 62 (by decide), hLv7.1 62]; exact hop
          obtain ⟨hRp, hgp⟩ := SR.pop hR22 h62_
          have hFp := frR_pop h62_
          have hZp := BZ.po (a := a) hZ22 (by omega) h62_ (show KnZ (fun v => (aI τ22 47 v).toInt) F a.2.2.2.2 by rw [show aI τ22 47 = aI τ7 47 from r47_22]; exact hknl)
          have hKp : KtR τ22 (unM a.2.1 (coM 54 (a.2.2.2.1.getD 4 0) 0 (a.2.2.2.1.getD 5 0) (accM (veM (zAt z.1) a.2.2.2.2 (seM (owF a) (sBd (a.2.2.2.1.getD 0 0)) z))))) := KtR.gh hK22 rfl rfl
          unfold Qv_closeRowZ
          try dsimp only
          have hFn : F = [] := by
            have q := nil_tail hR hFq (by lia)
            have e := hZ.frm
            rw [hFq, q] at e
            cases F with
            | nil => rfl
            | cons b G => exact absurd (congrArg List.length e) (by simp)
          subst hFn
          exact Or.inr ⟨rfl, (unM a.2.1 (coM 54 (a.2.2.2.1.getD 4 0) 0 (a.2.2.2.1.getD 5 0) (accM (veM (zAt z.1) a.2.2.2.2 (seM (owF a) (sBd (a.2.2.2.1.getD 0 0)) z))))), n + 1, [], hRp, hgp, (by repeat (first | exact hZp | refine BZ.i ?_ rfl | refine BZ.a ?_ rfl)), (by repeat (first | exact hKp | refine KtR.i ?_ | refine KtR.a ?_ (by decide))), (fun b hb => by cases hb), (fun q => absurd (show (0 : Int) = 7 from q) (by decide)), GpY.a1 (gd_acc z.1) hR.1.a5.2 ha1, (by
            obtain ⟨k_, j, c, x, out⟩ := a
            have e : k_ = 0 := h0a
            subst e
            exact (cl_0M (N := N) (F := []) (n := n) hcd).symm)⟩
    · refine hB _ _ _ _ _ (fun m23 hm23 => ?_)
      dsimp only [ugo, uwp, ust, uct, rfd, BcloseRow, Nat.beq, lv_args, rlk, rs1, rs2, rdl, rky, rcd, rno, rsw, Value.category, List.filter, List.take, List.drop, List.reverse, List.reverseAux, List.cons_append, List.nil_append, Option.toList, Int.toNat, Int.reduceToNat, if_pos, if_neg, reduceIte, ↓reduceIte, Nat.reduceAdd, Nat.reduceEqDiff, Nat.reduceBEq, beq_self_eq_true, Bool.not_true, Bool.not_false, Bool.and_true, Bool.and_false, Bool.true_and, Bool.false_and, gI_sI, gI_sL, gI_sA, gI_sM, gL_sI, gL_sL, gL_sA, gL_sM, aI_sI, aI_sL, aI_sA, aI_sM, aL_sI, aL_sL, aL_sA, aL_sM, BcloseRow_0, BcloseRow_37, BcloseRow_52, BcloseRow_53, BcloseRow_65, BcloseRow_67, BcloseRow_71, BcloseRow_117, BcloseRow_122, BcloseRow_128, oi_0, oi_1, oi_1000, oi_3, oi_54, oi_9]; try dsimp only
      refine hB _ _ _ _ _ (fun m24 hm24 => ?_)
      dsimp only [ugo, uwp, ust, uct, rfd, BcloseRow, Nat.beq, lv_args, rlk, rs1, rs2, rdl, rky, rcd, rno, rsw, Value.category, List.filter, List.take, List.drop, List.reverse, List.reverseAux, List.cons_append, List.nil_append, Option.toList, Int.toNat, Int.reduceToNat, if_pos, if_neg, reduceIte, ↓reduceIte, Nat.reduceAdd, Nat.reduceEqDiff, Nat.reduceBEq, beq_self_eq_true, Bool.not_true, Bool.not_false, Bool.and_true, Bool.and_false, Bool.true_and, Bool.false_and, gI_sI, gI_sL, gI_sA, gI_sM, gL_sI, gL_sL, gL_sA, gL_sM, aI_sI, aI_sL, aI_sA, aI_sM, aL_sI, aL_sL, aL_sA, aL_sM, BcloseRow_0, BcloseRow_37, BcloseRow_52, BcloseRow_53, BcloseRow_65, BcloseRow_67, BcloseRow_71, BcloseRow_117, BcloseRow_122, BcloseRow_128, oi_0, oi_1, oi_1000, oi_3, oi_54, oi_9]; try dsimp only
      refine ⟨trivial, fun w25 τ25 hq25 => ?_⟩
      obtain ⟨hq25, hL25⟩ := hq25
      obtain ⟨rfl, hLv25⟩ := hq25 trivial
      have hR25 := SR.lv (e := 0) (s := z.1) (n := n) (by repeat (first | exact hR | refine SR.i ?_ rfl | refine SR.a ?_ rfl)) hLv25
      have hf25 := frR_lv hLv25
      dsimp only [Option.toList, List.cons_append, List.nil_append, Nat.beq, gI_sI, gI_sL, gI_sA, gI_sM, gL_sI, gL_sL, gL_sA, gL_sM, aI_sI, aI_sL, aI_sA, aI_sM, aL_sI, aL_sL, aL_sA, aL_sM]
      obtain ⟨hZl, hkn25⟩ := BZ.lv (a := a) (K := F) (F := a :: F) (N := N) (z := (seM (owF a) (sBd (a.2.2.2.1.getD 0 0)) z)) (by repeat (first | exact hZs | refine BZ.i ?_ rfl | refine BZ.a ?_ rfl)) hLv25 hL25 (sc_row hrw) (by rw [nu_9 (show 9 ≤ a.1 ∧ a.1 ≤ 11 by rw [ha]; rcases hs with rfl | rfl | rfl | rfl | rfl <;> first | decide | (exfalso; lia)), ha, ← hkT]; exact sc_num (by rw [hkT]; omega) (by rw [hkT]; have := nT_600 hZ.2.2; have := hZ.1.2.1.1; omega) (by rcases hs with rfl | rfl | rfl | rfl | rfl <;> first | decide | (exfalso; lia)) (by rcases hs with rfl | rfl | rfl | rfl | rfl <;> first | decide | (exfalso; lia))) (by rw [hC]; omega)
      rw [hC] at hZl
      have hKl : KtR τ25 (veM (zAt z.1) a.2.2.2.2 (seM (owF a) (sBd (a.2.2.2.1.getD 0 0)) z)) := KtR.z (σ := σ) (z := z) hK rfl rfl (fun a h1 h2 => hLv25.2.1 a (by omega))
      have hknl : KnZ (fun v => (aI τ25 47 v).toInt) F a.2.2.2.2 := hkn25
      have r60_25 : aI τ25 60 = aI σ 60 := hLv25.2.1 60 (by decide)
      have r22_25 : aI τ25 22 = aI σ 22 := hLv25.2.1 22 (by decide)
      have r47_25 : aI τ25 47 = aI τ25 47 := rfl
      refine ⟨trivial, fun w26 τ26 hq26 => ?_⟩
      obtain ⟨hq26, hL26⟩ := hq26
      have hq26 := hq26 _ z.1 n ⟨(SR.x (e_ := 0) (by repeat (first | exact hR25 | refine SR.i ?_ rfl | refine SR.a ?_ rfl))), by omega, by omega⟩
      rcases hq26 with ⟨rfl, hF26⟩ | ⟨rfl, hX26, hz26, hS26⟩
      · dsimp only [Option.toList, List.cons_append, List.nil_append, Nat.beq, gI_sI, gI_sL, gI_sA, gI_sM, gL_sI, gL_sL, gL_sA, gL_sM, aI_sI, aI_sL, aI_sA, aI_sM, aL_sI, aL_sL, aL_sA, aL_sM]
        refine ⟨fun h27 => absurd h27 (by decide), fun h27 => ?_⟩
        clear h27
        refine hB _ _ _ _ _ (fun m28 hm28 => ?_)
        dsimp only [ugo, uwp, ust, uct, rfd, BcloseRow, Nat.beq, lv_args, rlk, rs1, rs2, rdl, rky, rcd, rno, rsw, Value.category, List.filter, List.take, List.drop, List.reverse, List.reverseAux, List.cons_append, List.nil_append, Option.toList, Int.toNat, Int.reduceToNat, if_pos, if_neg, reduceIte, ↓reduceIte, Nat.reduceAdd, Nat.reduceEqDiff, Nat.reduceBEq, beq_self_eq_true, Bool.not_true, Bool.not_false, Bool.and_true, Bool.and_false, Bool.true_and, Bool.false_and, gI_sI, gI_sL, gI_sA, gI_sM, gL_sI, gL_sL, gL_sA, gL_sM, aI_sI, aI_sL, aI_sA, aI_sM, aL_sI, aL_sL, aL_sA, aL_sM, BcloseRow_0, BcloseRow_37, BcloseRow_52, BcloseRow_53, BcloseRow_65, BcloseRow_67, BcloseRow_71, BcloseRow_117, BcloseRow_122, BcloseRow_128, oi_0, oi_1, oi_1000, oi_3, oi_54, oi_9]; try dsimp only
        unfold Qv_closeRowZ
        try dsimp only
        refine StZ.o hPhi ?_
        rw [cl_ct hcd]
        refine StQ.f hF26 ?_
        exact gd_ct _
      · dsimp only [Option.toList, List.cons_append, List.nil_append, Nat.beq, gI_sI, gI_sL, gI_sA, gI_sM, gL_sI, gL_sL, gL_sA, gL_sM, aI_sI, aI_sL, aI_sA, aI_sM, aL_sI, aL_sL, aL_sA, aL_sM]
        have hR26 := SR.kr (e_ := 0) (by repeat (first | exact hR25 | refine SR.i ?_ rfl | refine SR.a ?_ rfl)) hX26 acc2
        have hf26 := frR_kr hX26
        have hZ26 : BZ N τ26 (accM (veM (zAt z.1) a.2.2.2.2 (seM (owF a) (sBd (a.2.2.2.1.getD 0 0)) z))) (a :: F) (a :: F) := BZ.tk (by repeat (first | exact hZl | refine BZ.i ?_ rfl | refine BZ.a ?_ rfl)) hS26 hL26
        have hK26 : KtR τ26 (accM (veM (zAt z.1) a.2.2.2.2 (seM (owF a) (sBd (a.2.2.2.1.getD 0 0)) z))) := KtR.tk (by repeat (first | exact hKl | refine KtR.i ?_ | refine KtR.a ?_ (by decide))) hS26
        have hs26 : (accM (veM (zAt z.1) a.2.2.2.2 (seM (owF a) (sBd (a.2.2.2.1.getD 0 0)) z))).1 = (accY z.1) := congrArg accY rfl
        have r60_26 : aI τ26 60 = _ := (hS26.2 60).trans r60_25
        have r47_26 : aI τ26 47 = aI τ25 47 := (hS26.2 47).trans r47_25
        refine ⟨fun h29 => ?_, fun h29 => absurd h29 (by decide)⟩
        clear h29
        refine hB _ _ _ _ _ (fun m30 hm30 => ?_)
        dsimp only [ugo, uwp, ust, uct, rfd, BcloseRow, Nat.beq, lv_args, rlk, rs1, rs2, rdl, rky, rcd, rno, rsw, Value.category, List.filter, List.take, List.drop, List.reverse, List.reverseAux, List.cons_append, List.nil_append, Option.toList, Int.toNat, Int.reduceToNat, if_pos, if_neg, reduceIte, ↓reduceIte, Nat.reduceAdd, Nat.reduceEqDiff, Nat.reduceBEq, beq_self_eq_true, Bool.not_true, Bool.not_false, Bool.and_true, Bool.and_false, Bool.true_and, Bool.false_and, gI_sI, gI_sL, gI_sA, gI_sM, gL_sI, gL_sL, gL_sA, gL_sM, aI_sI, aI_sL, aI_sA, aI_sM, aL_sI, aL_sL, aL_sA, aL_sM, BcloseRow_0, BcloseRow_37, BcloseRow_52, BcloseRow_53, BcloseRow_65, BcloseRow_67, BcloseRow_71, BcloseRow_117, BcloseRow_122, BcloseRow_128, oi_0, oi_1, oi_1000, oi_3, oi_54, oi_9]; try dsimp only
        refine ⟨fun h31 => ?_, fun h31 => ?_⟩
        · refine hB _ _ _ _ _ (fun m32 hm32 => ?_)
          dsimp only [ugo, uwp, ust, uct, rfd, BcloseRow, Nat.beq, lv_args, rlk, rs1, rs2, rdl, rky, rcd, rno, rsw, Value.category, List.filter, List.take, List.drop, List.reverse, List.reverseAux, List.cons_append, List.nil_append, Option.toList, Int.toNat, Int.reduceToNat, if_pos, if_neg, reduceIte, ↓reduceIte, Nat.reduceAdd, Nat.reduceEqDiff, Nat.reduceBEq, beq_self_eq_true, Bool.not_true, Bool.not_false, Bool.and_true, Bool.and_false, Bool.true_and, Bool.false_and, gI_sI, gI_sL, gI_sA, gI_sM, gL_sI, gL_sL, gL_sA, gL_sM, aI_sI, aI_sL, aI_sA, aI_sM, aL_sI, aL_sL, aL_sA, aL_sM, BcloseRow_0, BcloseRow_37, BcloseRow_52, BcloseRow_53, BcloseRow_65, BcloseRow_67, BcloseRow_71, BcloseRow_117, BcloseRow_122, BcloseRow_128, oi_0, oi_1, oi_1000, oi_3, oi_54, oi_9]; try dsimp only
          refine ⟨fun h33 => ?_, fun h33 => ?_⟩
          · refine hB _ _ _ _ _ (fun m34 hm34 => ?_)
            dsimp only [ugo, uwp, ust, uct, rfd, BcloseRow, Nat.beq, lv_args, rlk, rs1, rs2, rdl, rky, rcd, rno, rsw, Value.category, List.filter, List.take, List.drop, List.reverse, List.reverseAux, List.cons_append, List.nil_append, Option.toList, Int.toNat, Int.reduceToNat, if_pos, if_neg, reduceIte, ↓reduceIte, Nat.reduceAdd, Nat.reduceEqDiff, Nat.reduceBEq, beq_self_eq_true, Bool.not_true, Bool.not_false, Bool.and_true, Bool.and_false, Bool.true_and, Bool.false_and, gI_sI, gI_sL, gI_sA, gI_sM, gL_sI, gL_sL, gL_sA, gL_sM, aI_sI, aI_sL, aI_sA, aI_sM, aL_sI, aL_sL, aL_sA, aL_sM, BcloseRow_0, BcloseRow_37, BcloseRow_52, BcloseRow_53, BcloseRow_65, BcloseRow_67, BcloseRow_71, BcloseRow_117, BcloseRow_122, BcloseRow_128, oi_0, oi_1, oi_1000, oi_3, oi_54, oi_9]; try dsimp only
            have h9a : 9 ≤ a.1 ∧ a.1 ≤ 11 := by rw [ha]; rcases hs with rfl | rfl | rfl | rfl | rfl <;> first | decide | (exfalso; lia)
            refine ⟨trivial, fun w35 τ35 hq35 => ?_⟩
            obtain ⟨hq35, hL35⟩ := hq35
            have hq35 : StZ N τ35 _ w35 := hq35 N (accM (veM (zAt z.1) a.2.2.2.2 (seM (owF a) (sBd (a.2.2.2.1.getD 0 0)) z))) n F a ⟨(by rw [show (accM (veM (zAt z.1) a.2.2.2.2 (seM (owF a) (sBd (a.2.2.2.1.getD 0 0)) z))).1 = (accY z.1) from hs26]; exact (by repeat (first | exact hR26 | refine SR.i ?_ rfl | refine SR.a ?_ rfl))), (by rw [hS26.1 62 (by decide), hLv25.1 62]; exact hop), ha, (by lia), hkT, (hT.2.2 (by omega)).1, (by repeat (first | exact hZ26 | refine BZ.i ?_ rfl | refine BZ.a ?_ rfl)), (by repeat (first | exact hK26 | refine KtR.i ?_ | refine KtR.a ?_ (by decide))), (by have q := hknl; rw [← r47_26] at q; exact q), rfl, hw, (by rw [show (accM (veM (zAt z.1) a.2.2.2.2 (seM (owF a) (sBd (a.2.2.2.1.getD 0 0)) z))).1 = (accY z.1) from hs26]; exact GpY.a1 (by repeat (first | with_reducible exact GpY.rf | with_reducible refine GpY.tr ?_ (gd_fo _) | with_reducible refine GpY.tr ?_ (gd_ef _) | with_reducible refine GpY.tr ?_ (gd_cf _) | with_reducible refine GpY.tr ?_ (gd_wt _) | with_reducible refine GpY.tr ?_ (gd_xp _) | with_reducible refine GpY.tr ?_ (gd_acc _) | with_reducible refine GpY.tr ?_ (gd_rai _) | with_reducible refine GpY.tr ?_ (gd_e _) | with_reducible refine GpY.tr ?_ (gd_o _) | with_reducible refine GpY.tr ?_ (gd_c _) | with_reducible refine GpY.tr ?_ (gd_op _) | with_reducible refine GpY.tr ?_ (gd_clp gd_e _ _) | with_reducible refine GpY.tr ?_ (gd_tl _) | with_reducible refine GpY.tr ?_ (gd_sf _ _ _) | with_reducible refine GpY.tr ?_ (gd_cl _) | with_reducible refine GpY.tr ?_ (gd_pc _) | with_reducible refine GpY.tr ?_ (gd_st _) | with_reducible refine GpY.tr ?_ (gd_rw _) | with_reducible refine GpY.tr ?_ (gd_typ _) | with_reducible refine GpY.tr ?_ (gd_dcl _) | with_reducible refine GpY.tr ?_ (gd_va2 _) | with_reducible refine GpY.tr ?_ (gd_cnd _) | with_reducible refine GpY.tr ?_ (gd_tr1 _) | with_reducible refine GpY.tr ?_ (gd_tr2 (fun _ => gd_rw) _) | with_reducible refine GpY.tr ?_ (gd_tr3 (fun _ => gd_rw) _) | with_reducible refine GpY.tr ?_ (gd_fo1 _) | with_reducible refine GpY.tr ?_ (gd_fo2 _) | with_reducible refine GpY.tr ?_ (gd_fo3 _) | with_reducible refine GpY.tr ?_ (gd_fex _) | with_reducible refine GpY.tr ?_ (gp_varZ) | with_reducible refine GpY.tr ?_ (gp_casZ) | exact GpY.rf)) hR.1.a5.2 ha1)⟩
            have hv35 : w35 = some (.int 0) ∨ w35 = some (.int 1) := hq35.imp (fun q => q.1) (fun q => q.1)
            rcases hv35 with rfl | rfl
            · dsimp only [Option.toList, List.cons_append, List.nil_append, Nat.beq, gI_sI, gI_sL, gI_sA, gI_sM, gL_sI, gL_sL, gL_sA, gL_sM, aI_sI, aI_sL, aI_sA, aI_sM, aL_sI, aL_sL, aL_sA, aL_sM]
              unfold Qv_closeRowZ
              try dsimp only
              rw [cl_ctF (by omega) hcd]
              have e9 := ow_9 h9a
              have hq_ := hq35
              have ez : t9M a.2.1 a.2.2.2.1 a.2.2.2.2 z = unM (owF a) (accM (veM (zAt z.1) a.2.2.2.2 (seM (owF a) (sBd (a.2.2.2.1.getD 0 0)) z))) := by rw [e9]; rfl
              rw [ez]
              exact hq_
            · dsimp only [Option.toList, List.cons_append, List.nil_append, Nat.beq, gI_sI, gI_sL, gI_sA, gI_sM, gL_sI, gL_sL, gL_sA, gL_sM, aI_sI, aI_sL, aI_sA, aI_sM, aL_sI, aL_sL, aL_sA, aL_sM]
              unfold Qv_closeRowZ
              try dsimp only
              rw [cl_ctF (by omega) hcd]
              have e9 := ow_9 h9a
              have hq_ := hq35
              have ez : t9M a.2.1 a.2.2.2.1 a.2.2.2.2 z = unM (owF a) (accM (veM (zAt z.1) a.2.2.2.2 (seM (owF a) (sBd (a.2.2.2.1.getD 0 0)) z))) := by rw [e9]; rfl
              rw [ez]
              exact hq_
          · refine hB _ _ _ _ _ (fun m36 hm36 => ?_)
            dsimp only [ugo, uwp, ust, uct, rfd, BcloseRow, Nat.beq, lv_args, rlk, rs1, rs2, rdl, rky, rcd, rno, rsw, Value.category, List.filter, List.take, List.drop, List.reverse, List.reverseAux, List.cons_append, List.nil_append, Option.toList, Int.toNat, Int.reduceToNat, if_pos, if_neg, reduceIte, ↓reduceIte, Nat.reduceAdd, Nat.reduceEqDiff, Nat.reduceBEq, beq_self_eq_true, Bool.not_true, Bool.not_false, Bool.and_true, Bool.and_false, Bool.true_and, Bool.false_and, gI_sI, gI_sL, gI_sA, gI_sM, gL_sI, gL_sL, gL_sA, gL_sM, aI_sI, aI_sL, aI_sA, aI_sM, aL_sI, aL_sL, aL_sA, aL_sM, BcloseRow_0, BcloseRow_37, BcloseRow_52, BcloseRow_53, BcloseRow_65, BcloseRow_67, BcloseRow_71, BcloseRow_117, BcloseRow_122, BcloseRow_128, oi_0, oi_1, oi_1000, oi_3, oi_54, oi_9]; try dsimp only
            have h1a : a.1 = 1 := by rw [ha, show sort = 1 by lia]; rfl
            refine ⟨trivial, fun w37 τ37 hq37 => ?_⟩
            obtain ⟨hq37, hL37⟩ := hq37
            have hq37 : StZ N τ37 _ w37 := hq37 N (accM (veM (zAt z.1) a.2.2.2.2 (seM (owF a) (sBd (a.2.2.2.1.getD 0 0)) z))) n F a ⟨(by rw [show (accM (veM (zAt z.1) a.2.2.2.2 (seM (owF a) (sBd (a.2.2.2.1.getD 0 0)) z))).1 = (accY z.1) from hs26]; exact (by repeat (first | exact hR26 | refine SR.i ?_ rfl | refine SR.a ?_ rfl))), (by rw [hS26.1 62 (by decide), hLv25.1 62]; exact hop), (by repeat (first | exact hZ26 | refine BZ.i ?_ rfl | refine BZ.a ?_ rfl)), (by repeat (first | exact hK26 | refine KtR.i ?_ | refine KtR.a ?_ (by decide))), (by have q := hknl; rw [← r47_26] at q; exact q), Or.inl h1a, hw, (by rw [show (accM (veM (zAt z.1) a.2.2.2.2 (seM (owF a) (sBd (a.2.2.2.1.getD 0 0)) z))).1 = (accY z.1) from hs26]; exact GpY.a1 (by repeat (first | with_reducible exact GpY.rf | with_reducible refine GpY.tr ?_ (gd_fo _) | with_reducible refine GpY.tr ?_ (gd_ef _) | with_reducible refine GpY.tr ?_ (gd_cf _) | with_reducible refine GpY.tr ?_ (gd_wt _) | with_reducible refine GpY.tr ?_ (gd_xp _) | with_reducible refine GpY.tr ?_ (gd_acc _) | with_reducible refine GpY.tr ?_ (gd_rai _) | with_reducible refine GpY.tr ?_ (gd_e _) | with_reducible refine GpY.tr ?_ (gd_o _) | with_reducible refine GpY.tr ?_ (gd_c _) | with_reducible refine GpY.tr ?_ (gd_op _) | with_reducible refine GpY.tr ?_ (gd_clp gd_e _ _) | with_reducible refine GpY.tr ?_ (gd_tl _) | with_reducible refine GpY.tr ?_ (gd_sf _ _ _) | with_reducible refine GpY.tr ?_ (gd_cl _) | with_reducible refine GpY.tr ?_ (gd_pc _) | with_reducible refine GpY.tr ?_ (gd_st _) | with_reducible refine GpY.tr ?_ (gd_rw _) | with_reducible refine GpY.tr ?_ (gd_typ _) | with_reducible refine GpY.tr ?_ (gd_dcl _) | with_reducible refine GpY.tr ?_ (gd_va2 _) | with_reducible refine GpY.tr ?_ (gd_cnd _) | with_reducible refine GpY.tr ?_ (gd_tr1 _) | with_reducible refine GpY.tr ?_ (gd_tr2 (fun _ => gd_rw) _) | with_reducible refine GpY.tr ?_ (gd_tr3 (fun _ => gd_rw) _) | with_reducible refine GpY.tr ?_ (gd_fo1 _) | with_reducible refine GpY.tr ?_ (gd_fo2 _) | with_reducible refine GpY.tr ?_ (gd_fo3 _) | with_reducible refine GpY.tr ?_ (gd_fex _) | with_reducible refine GpY.tr ?_ (gp_varZ) | with_reducible refine GpY.tr ?_ (gp_casZ) | exact GpY.rf)) hR.1.a5.2 ha1), (hT.2.2 (by omega)).1⟩
            have hv37 : w37 = some (.int 0) ∨ w37 = some (.int 1) := hq37.imp (fun q => q.1) (fun q => q.1)
            rcases hv37 with rfl | rfl
            · dsimp only [Option.toList, List.cons_append, List.nil_append, Nat.beq, gI_sI, gI_sL, gI_sA, gI_sM, gL_sI, gL_sL, gL_sA, gL_sM, aI_sI, aI_sL, aI_sA, aI_sM, aL_sI, aL_sL, aL_sA, aL_sM]
              unfold Qv_closeRowZ
              try dsimp only
              have h1a : a.1 = 1 := by rw [ha, show sort = 1 by lia]; rfl
              have hEq : clF N a F n (z, a.2.2.2.1.getD 0 0) = sfM N F (n + 1) (enM a.2.1 a.2.2.1.1 (accM (veM (zAt z.1) a.2.2.2.2 (unM a.2.1 (seM a.2.1 (sBd (a.2.2.2.1.getD 0 0)) z))))) := by
                obtain ⟨k_, j, c, x, out⟩ := a
                have e : k_ = 1 := h1a
                subst e
                exact cl_1M hcd
              rw [hEq]
              have hq_ := hq37
              rw [show owF a = a.2.1 from ow_1 (by omega)] at hq_
              exact hq_
            · dsimp only [Option.toList, List.cons_append, List.nil_append, Nat.beq, gI_sI, gI_sL, gI_sA, gI_sM, gL_sI, gL_sL, gL_sA, gL_sM, aI_sI, aI_sL, aI_sA, aI_sM, aL_sI, aL_sL, aL_sA, aL_sM]
              unfold Qv_closeRowZ
              try dsimp only
              have h1a : a.1 = 1 := by rw [ha, show sort = 1 by lia]; rfl
              have hEq : clF N a F n (z, a.2.2.2.1.getD 0 0) = sfM N F (n + 1) (enM a.2.1 a.2.2.1.1 (accM (veM (zAt z.1) a.2.2.2.2 (unM a.2.1 (seM a.2.1 (sBd (a.2.2.2.1.getD 0 0)) z))))) := by
                obtain ⟨k_, j, c, x, out⟩ := a
                have e : k_ = 1 := h1a
                subst e
                exact cl_1M hcd
              rw [hEq]
              have hq_ := hq37
              rw [show owF a = a.2.1 from ow_1 (by omega)] at hq_
              exact hq_
        · refine hB _ _ _ _ _ (fun m38 hm38 => ?_)
          dsimp only [ugo, uwp, ust, uct, rfd, BcloseRow, Nat.beq, lv_args, rlk, rs1, rs2, rdl, rky, rcd, rno, rsw, Value.category, List.filter, List.take, List.drop, List.reverse, List.reverseAux, List.cons_append, List.nil_append, Option.toList, Int.toNat, Int.reduceToNat, if_pos, if_neg, reduceIte, ↓reduceIte, Nat.reduceAdd, Nat.reduceEqDiff, Nat.reduceBEq, beq_self_eq_true, Bool.not_true, Bool.not_false, Bool.and_true, Bool.and_false, Bool.true_and, Bool.false_and, gI_sI, gI_sL, gI_sA, gI_sM, gL_sI, gL_sL, gL_sA, gL_sM, aI_sI, aI_sL, aI_sA, aI_sM, aL_sI, aL_sL, aL_sA, aL_sM, BcloseRow_0, BcloseRow_37, BcloseRow_52, BcloseRow_53, BcloseRow_65, BcloseRow_67, BcloseRow_71, BcloseRow_117, BcloseRow_122, BcloseRow_128, oi_0, oi_1, oi_1000, oi_3, oi_54, oi_9]; try dsimp only
          have h0a : a.1 = 0 := by rw [ha, show sort = 0 by lia]; rfl
          have hLb := hZ.2.1.2.2.1 a List.mem_cons_self
          intro p39
          refine ⟨trivial, fun w40 τ40 hq40 => ?_⟩
          obtain ⟨hq40, hL40⟩ := hq40
          obtain ⟨rfl, hEz40⟩ := hq40 trivial
          have hE40 := hEz40.1
          have hR40 := SR.em (e_ := 0) (s := (accY z.1)) (n := n) (by repeat (first | exact hR26 | refine SR.i ?_ rfl | refine SR.a ?_ rfl)) hE40
          have hf40 := frR_em hE40
          dsimp only [Option.toList, List.cons_append, List.nil_append, Nat.beq, gI_sI, gI_sL, gI_sA, gI_sM, gL_sI, gL_sL, gL_sA, gL_sM, aI_sI, aI_sL, aI_sA, aI_sM, aL_sI, aL_sL, aL_sA, aL_sM]
          have hZ40 : BZ N τ40 (coM 54 (a.2.2.2.1.getD 4 0) 0 (a.2.2.2.1.getD 5 0) (accM (veM (zAt z.1) a.2.2.2.2 (seM (owF a) (sBd (a.2.2.2.1.getD 0 0)) z)))) (a :: F) (a :: F) := BZ.co (x := ((54 : Int), ((a.2.2.2.1.getD 4 0) : Int), (0 : Int), ((a.2.2.2.1.getD 5 0) : Int), ((-1) : Int))) (by repeat (first | exact hZ26 | refine BZ.i ?_ rfl | refine BZ.a ?_ rfl)) hEz40 hL40 rfl ((show (gI τ26 36 - 1).toInt = _ by rw [hS26.1 36 (by decide), hLv25.1 36]; exact (hLb.2 h0a).1)) rfl ((show (aI τ26 37 (gI τ26 36 - 1).toNatClampNeg).toInt = _ by rw [hS26.1 36 (by decide), hS26.2 37, hLv25.1 36, hLv25.2.1 37 (by decide)]; exact (hLb.2 h0a).2)) (show ¬ (54 : Int) = 51 by decide)
          have hK40 : KtR τ40 (coM 54 (a.2.2.2.1.getD 4 0) 0 (a.2.2.2.1.getD 5 0) (accM (veM (zAt z.1) a.2.2.2.2 (seM (owF a) (sBd (a.2.2.2.1.getD 0 0)) z)))) := KtR.en (x := ((54 : Int), ((a.2.2.2.1.getD 4 0) : Int), (0 : Int), ((a.2.2.2.1.getD 5 0) : Int), ((-1) : Int))) (by repeat (first | exact hK26 | refine KtR.i ?_ | refine KtR.a ?_ (by decide))) (emK hEz40) (show thO 54 = false by decide)
          have hs40 : (coM 54 (a.2.2.2.1.getD 4 0) 0 (a.2.2.2.1.getD 5 0) (accM (veM (zAt z.1) a.2.2.2.2 (seM (owF a) (sBd (a.2.2.2.1.getD 0 0)) z)))).1 = (accY z.1) := hs26
          have r60_40 : aI τ40 60 = _ := (hE40.2.2.2.2.1 60 (by omega)).trans r60_26
          have r47_40 : aI τ40 47 = aI τ25 47 := (hE40.2.2.2.2.1 47 (by omega)).trans r47_26
          have h62_ : 0 < gI τ40 62 := by rw [hE40.1 62 (by decide), hS26.1 62 (by decide), hLv25.1 62]; exact hop
          obtain ⟨hRp, hgp⟩ := SR.pop hR40 h62_
          have hFp := frR_pop h62_
          have hZp := BZ.po (a := a) hZ40 (by omega) h62_ (show KnZ (fun v => (aI τ40 47 v).toInt) F a.2.2.2.2 by rw [show aI τ40 47 = aI τ25 47 from r47_40]; exact hknl)
          have hKp : KtR τ40 (unM a.2.1 (coM 54 (a.2.2.2.1.getD 4 0) 0 (a.2.2.2.1.getD 5 0) (accM (veM (zAt z.1) a.2.2.2.2 (seM (owF a) (sBd (a.2.2.2.1.getD 0 0)) z))))) := KtR.gh hK40 rfl rfl
          unfold Qv_closeRowZ
          try dsimp only
          have hFn : F = [] := by
            have q := nil_tail hR hFq (by lia)
            have e := hZ.frm
            rw [hFq, q] at e
            cases F with
            | nil => rfl
            | cons b G => exact absurd (congrArg List.length e) (by simp)
          subst hFn
          exact Or.inr ⟨rfl, (unM a.2.1 (coM 54 (a.2.2.2.1.getD 4 0) 0 (a.2.2.2.1.getD 5 0) (accM (veM (zAt z.1) a.2.2.2.2 (seM (owF a) (sBd (a.2.2.2.1.getD 0 0)) z))))), n + 1, [], hRp, hgp, (by repeat (first | exact hZp | refine BZ.i ?_ rfl | refine BZ.a ?_ rfl)), (by repeat (first | exact hKp | refine KtR.i ?_ | refine KtR.a ?_ (by decide))), (fun b hb => by cases hb), (fun q => absurd (show (0 : Int) = 7 from q) (by decide)), GpY.a1 (gd_acc z.1) hR.1.a5.2 ha1, (by
            obtain ⟨k_, j, c, x, out⟩ := a
            have e : k_ = 0 := h0a
            subst e
            exact (cl_0M (N := N) (F := []) (n := n) hcd).symm)⟩
  next => exact hP.elim
theorem w_closeRowZ : UMet 67 (fun _ _ => True) Qw_closeRowZ := fun A1 σ _ w τ h N z n F a hP => v_closeRowZ N z n F a A1 σ hP w τ h
def Pv_statementZ (N : Int → Int) (z : ZS) (n : Nat) (F : List FrZ) : UP1 := fun A1 σ => match A1 with
  | [] => SR σ z.1 n ∧ FgR σ 0 ∧ frR σ ≠ [] ∧ BZ N σ z F F ∧ KtR σ z ∧ WfF F ∧ LuZ z F ∧ 1 ≤ zAt z.1
  | _ => False
def Qv_statementZ (N : Int → Int) (z : ZS) (n : Nat) (F : List FrZ) : UQ1 := fun A1 σ w τ => match A1 with
  | [] => StZ N τ (sfM N F n (stM N n z)) w
  | _ => False
def Qw_statementZ : UQ1 := fun A1 σ w τ => ∀ (N : Int → Int) (z : ZS) (n : Nat) (F : List FrZ), Pv_statementZ N z n F A1 σ → Qv_statementZ N z n F A1 σ w τ
set_option maxRecDepth 100000 in
set_option maxHeartbeats 4000000 in
theorem v_statementZ (N : Int → Int) (z : ZS) (n : Nat) (F : List FrZ) : UMet 49 (Pv_statementZ N z n F) (Qv_statementZ N z n F) := by
  refine UMet.by Bstatement [(55, (fun _ _ => True), (LqR Qw_doOfZ)), (20, (fun _ _ => True), (LqR Qw_emitZ)), (57, (fun _ _ => True), (LqR Qw_forOfZ)), (65, (fun _ _ => True), (LqR Qw_givesZ)), (53, (fun _ _ => True), (LqR Qw_ifOfZ)), (14, (fun _ _ => True), (LqR Qw_isSign)), (16, (fun _ _ => True), (LqR Qw_isSignAt)), (62, (fun _ _ => True), (LqR Qw_jumpZ)), (36, (fun _ _ => True), (LqR Qw_openZ)), (50, (fun _ _ => True), (LqR Qw_plainZ)), (58, (fun _ _ => True), (LqR Qw_switchOfZ)), (17, (fun _ _ => True), (LqR Qw_take)), (35, (fun _ _ => True), (LqR Qw_thingZ)), (66, (fun _ _ => True), (LqR Qw_tryOfZ)), (54, (fun _ _ => True), (LqR Qw_whileOfZ))] rfl (ucc (UMet.aL ck_P rfl w_doOfZ) (ucc (UMet.aL ck_P rfl w_emitZ) (ucc (UMet.aL ck_P rfl w_forOfZ) (ucc (UMet.aL ck_P rfl w_givesZ) (ucc (UMet.aL ck_P rfl w_ifOfZ) (ucc (UMet.aL ck_P rfl w_isSign) (ucc (UMet.aL ck_P rfl w_isSignAt) (ucc (UMet.aL ck_P rfl w_jumpZ) (ucc (UMet.aL ck_P rfl w_openZ) (ucc (UMet.aL ck_P rfl w_plainZ) (ucc (UMet.aL ck_P rfl w_switchOfZ) (ucc (UMet.aL ck_P rfl w_take) (ucc (UMet.aL ck_P rfl w_thingZ) (ucc (UMet.aL ck_P rfl w_tryOfZ) (ucc (UMet.aL ck_P rfl w_whileOfZ) uc0))))))))))))))) ?_
  intro A1 σ hP K hB hW
  unfold Pv_statementZ at hP
  split at hP
  next =>
    obtain ⟨hR, hg, hne, hZ, hK, hw, hu, ha1⟩ := hP
    have hnn := hR.2.1
    have hm6 := hR.2.2.1.2.2.resolve_left hne
    have hC : (gI σ 14).toInt = zAt z.1 := hR.1.2.1.1.symm
    have hPhi := lf_sst (n := n) hZ hw
    intro n0_
    refine hB _ _ _ _ _ (fun m1 hm1 => ?_)
    dsimp only [ugo, uwp, ust, uct, rfd, Bstatement, Nat.beq, lv_args, rlk, rs1, rs2, rdl, rky, rcd, rno, rsw, Value.category, List.filter, List.take, List.drop, List.reverse, List.reverseAux, List.cons_append, List.nil_append, Option.toList, Int.toNat, Int.reduceToNat, if_pos, if_neg, reduceIte, ↓reduceIte, Nat.reduceAdd, Nat.reduceEqDiff, Nat.reduceBEq, beq_self_eq_true, Bool.not_true, Bool.not_false, Bool.and_true, Bool.and_false, Bool.true_and, Bool.false_and, gI_sI, gI_sL, gI_sA, gI_sM, gL_sI, gL_sL, gL_sA, gL_sM, aI_sI, aI_sL, aI_sA, aI_sM, aL_sI, aL_sL, aL_sA, aL_sM, Bstatement_0, Bstatement_14, Bstatement_37, Bstatement_47, Bstatement_51, Bstatement_52, Bstatement_53, Bstatement_63, Bstatement_75, Bstatement_108, Bstatement_115, Bstatement_126, Bstatement_130, Bstatement_131, Bstatement_132, Bstatement_142, Bstatement_147, Bstatement_220, Bstatement_225, Bstatement_230, Bstatement_235, Bstatement_240, Bstatement_245, Bstatement_250, Bstatement_255, Bstatement_260, oi_0, oi_1, oi_123, oi_20, oi_4, oi_41, oi_58, oi_7]; try dsimp only
    refine ⟨trivial, fun w2 τ2 hq2 => ?_⟩
    obtain ⟨hq2, hL2⟩ := hq2
    obtain ⟨rfl, b2, rfl, hb2⟩ := hq2 trivial
    have he2 := (XrR.s (SR.x (e_ := 0) (by repeat (first | exact hR | refine SR.i ?_ rfl | refine SR.a ?_ rfl)))).sg (x := 123) (d := 2) (by decide)
    rcases hb2 with ⟨rfl, hk2⟩ | ⟨rfl, hk2⟩
    · dsimp only [Option.toList, List.cons_append, List.nil_append, Nat.beq, gI_sI, gI_sL, gI_sA, gI_sM, gL_sI, gL_sL, gL_sA, gL_sM, aI_sI, aI_sL, aI_sA, aI_sM, aL_sI, aL_sL, aL_sA, aL_sM]
      have hc2 : codY z.1 = 2 := he2.mp hk2
      refine ⟨fun h3 => absurd h3 (by decide), fun h3 => ?_⟩
      clear h3
      refine hB _ _ _ _ _ (fun m4 hm4 => ?_)
      dsimp only [ugo, uwp, ust, uct, rfd, Bstatement, Nat.beq, lv_args, rlk, rs1, rs2, rdl, rky, rcd, rno, rsw, Value.category, List.filter, List.take, List.drop, List.reverse, List.reverseAux, List.cons_append, List.nil_append, Option.toList, Int.toNat, Int.reduceToNat, if_pos, if_neg, reduceIte, ↓reduceIte, Nat.reduceAdd, Nat.reduceEqDiff, Nat.reduceBEq, beq_self_eq_true, Bool.not_true, Bool.not_false, Bool.and_true, Bool.and_false, Bool.true_and, Bool.false_and, gI_sI, gI_sL, gI_sA, gI_sM, gL_sI, gL_sL, gL_sA, gL_sM, aI_sI, aI_sL, aI_sA, aI_sM, aL_sI, aL_sL, aL_sA, aL_sM, Bstatement_0, Bstatement_14, Bstatement_37, Bstatement_47, Bstatement_51, Bstatement_52, Bstatement_53, Bstatement_63, Bstatement_75, Bstatement_108, Bstatement_115, Bstatement_126, Bstatement_130, Bstatement_131, Bstatement_132, Bstatement_142, Bstatement_147, Bstatement_220, Bstatement_225, Bstatement_230, Bstatement_235, Bstatement_240, Bstatement_245, Bstatement_250, Bstatement_255, Bstatement_260, oi_0, oi_1, oi_123, oi_20, oi_4, oi_41, oi_58, oi_7]; try dsimp only
      have hcb : codY z.1 = 2 := hc2
      refine ⟨trivial, fun w5 τ5 hq5 => ?_⟩
      obtain ⟨hq5, hL5⟩ := hq5
      obtain ⟨rfl, hEz5⟩ := hq5 trivial
      have hE5 := hEz5.1
      have hR5 := SR.em (e_ := 0) (s := z.1) (n := n) (by repeat (first | exact hR | refine SR.i ?_ rfl | refine SR.a ?_ rfl)) hE5
      have hf5 := frR_em hE5
      have hg5 := FgR.em (e_ := 0) (by repeat (first | exact hg | refine FgR.i ?_ rfl | refine FgR.a ?_ rfl)) (s := z.1) (n := n) (by repeat (first | exact hR | refine SR.i ?_ rfl | refine SR.a ?_ rfl)) hE5
      dsimp only [Option.toList, List.cons_append, List.nil_append, Nat.beq, gI_sI, gI_sL, gI_sA, gI_sM, gL_sI, gL_sL, gL_sA, gL_sM, aI_sI, aI_sL, aI_sA, aI_sM, aL_sI, aL_sL, aL_sA, aL_sM]
      have k6_5 : 0 < gI τ5 36 := by rw [hE5.1 36 (by decide)]; exact hm6
      have hstI : (gI σ 18).toInt = (cnM z : Int) := em18 (N := N) (F := F) (K := F) hEz5 (by repeat (first | exact hZ | refine BZ.i ?_ rfl | refine BZ.a ?_ rfl))
      have hZ5 : BZ N τ5 (coM 20 0 0 (zAt z.1) z) F F := BZ.co (x := ((20 : Int), (0 : Int), (0 : Int), ((zAt z.1) : Int), ((-1) : Int))) (by repeat (first | exact hZ | refine BZ.i ?_ rfl | refine BZ.a ?_ rfl)) hEz5 hL5 rfl (rfl) rfl (hC) (show ¬ (20 : Int) = 51 by decide)
      have hK5 : KtR τ5 (coM 20 0 0 (zAt z.1) z) := KtR.en (x := ((20 : Int), (0 : Int), (0 : Int), ((zAt z.1) : Int), ((-1) : Int))) (by repeat (first | exact hK | refine KtR.i ?_ | refine KtR.a ?_ (by decide))) (emK hEz5) (show thO 20 = false by decide)
      have hs5 : (coM 20 0 0 (zAt z.1) z).1 = z.1 := rfl
      refine ⟨trivial, fun w6 τ6 hq6 => ?_⟩
      obtain ⟨hq6, hL6⟩ := hq6
      obtain ⟨rfl, hTz6⟩ := hq6 trivial
      have hT6 := hTz6.1
      have hR6 := SR.th (e_ := 0) (s := z.1) (n := n) (by repeat (first | exact hR5 | refine SR.i ?_ rfl | refine SR.a ?_ rfl)) hT6
      have hg6 := FgR.th (e_ := 0) (by repeat (first | exact hg5 | refine FgR.i ?_ rfl | refine FgR.a ?_ rfl)) (s := z.1) (n := n) (by repeat (first | exact hR5 | refine SR.i ?_ rfl | refine SR.a ?_ rfl)) hT6
      have hf6 := frR_th hT6
      have hk6 := th49 hT6
      have k6_6 : 0 < gI τ6 36 := by rw [hT6.1 36 (by decide)]; exact k6_5
      have k9_6 : nT (gI τ5 49) < nT (gI τ6 49) := kthx hk6
      dsimp only [Option.toList, List.cons_append, List.nil_append, Nat.beq, gI_sI, gI_sL, gI_sA, gI_sM, gL_sI, gL_sL, gL_sA, gL_sM, aI_sI, aI_sL, aI_sA, aI_sM, aL_sI, aL_sL, aL_sA, aL_sM]
      have hkI := BZ.k49 hZ5
      have hkI : (gI τ5 49).toInt = (tnM z : Int) := hkI
      have hn49 : nT (gI τ5 49) = tnM z := hZ5.1.2.1.1
      have r60_6 : (aI τ6 60 (tnM z)).toInt = zAt z.1 := by rw [hTz6.2.2.1, hn49, upd_eq]; exact hC
      have hZ6 : BZ N τ6 (thM (beM 2 (lvN n) (coM 20 0 0 (zAt z.1) z))) F F := BZ.th (BZ.be (k := 2) (lv := lvN n) hZ5) hTz6 hL6
      have hK6 : KtR τ6 (thM (beM 2 (lvN n) (coM 20 0 0 (zAt z.1) z))) := KtR.th (z := beM 2 (lvN n) (coM 20 0 0 (zAt z.1) z)) (KtR.gh hK5 rfl rfl) hTz6 hZ5.1.2.1.1 hZ5.c18 (by have q1 := hE5.2.1; have q2 := hE5.2.2.2.2.2; lia)
      have hs6 : (thM (beM 2 (lvN n) (coM 20 0 0 (zAt z.1) z))).1 = z.1 := hs5
      have hPg6 : PgZ z (thM (beM 2 (lvN n) (coM 20 0 0 (zAt z.1) z))) (thM (beM 2 (lvN n) (coM 20 0 0 (zAt z.1) z))) := PgZ.rf rfl
      refine ⟨trivial, fun w7 τ7 hq7 => ?_⟩
      obtain ⟨hq7, hL7⟩ := hq7
      have hq7 := hq7 _ z.1 n ⟨(SR.x (e_ := 0) (by repeat (first | exact hR6 | refine SR.i ?_ rfl | refine SR.a ?_ rfl))), by omega, by omega⟩
      rcases hq7 with ⟨rfl, hF7⟩ | ⟨rfl, hX7, hz7, hS7⟩
      · dsimp only [Option.toList, List.cons_append, List.nil_append, Nat.beq, gI_sI, gI_sL, gI_sA, gI_sM, gL_sI, gL_sL, gL_sA, gL_sM, aI_sI, aI_sL, aI_sA, aI_sM, aL_sI, aL_sL, aL_sA, aL_sM]
        refine ⟨fun h8 => ?_, fun h8 => absurd h8 (by decide)⟩
        clear h8
        refine hB _ _ _ _ _ (fun m9 hm9 => ?_)
        dsimp only [ugo, uwp, ust, uct, rfd, Bstatement, Nat.beq, lv_args, rlk, rs1, rs2, rdl, rky, rcd, rno, rsw, Value.category, List.filter, List.take, List.drop, List.reverse, List.reverseAux, List.cons_append, List.nil_append, Option.toList, Int.toNat, Int.reduceToNat, if_pos, if_neg, reduceIte, ↓reduceIte, Nat.reduceAdd, Nat.reduceEqDiff, Nat.reduceBEq, beq_self_eq_true, Bool.not_true, Bool.not_false, Bool.and_true, Bool.and_false, Bool.true_and, Bool.false_and, gI_sI, gI_sL, gI_sA, gI_sM, gL_sI, gL_sL, gL_sA, gL_sM, aI_sI, aI_sL, aI_sA, aI_sM, aL_sI, aL_sL, aL_sA, aL_sM, Bstatement_0, Bstatement_14, Bstatement_37, Bstatement_47, Bstatement_51, Bstatement_52, Bstatement_53, Bstatement_63, Bstatement_75, Bstatement_108, Bstatement_115, Bstatement_126, Bstatement_130, Bstatement_131, Bstatement_132, Bstatement_142, Bstatement_147, Bstatement_220, Bstatement_225, Bstatement_230, Bstatement_235, Bstatement_240, Bstatement_245, Bstatement_250, Bstatement_255, Bstatement_260, oi_0, oi_1, oi_123, oi_20, oi_4, oi_41, oi_58, oi_7]; try dsimp only
        refine hB _ _ _ _ _ (fun m10 hm10 => ?_)
        dsimp only [ugo, uwp, ust, uct, rfd, Bstatement, Nat.beq, lv_args, rlk, rs1, rs2, rdl, rky, rcd, rno, rsw, Value.category, List.filter, List.take, List.drop, List.reverse, List.reverseAux, List.cons_append, List.nil_append, Option.toList, Int.toNat, Int.reduceToNat, if_pos, if_neg, reduceIte, ↓reduceIte, Nat.reduceAdd, Nat.reduceEqDiff, Nat.reduceBEq, beq_self_eq_true, Bool.not_true, Bool.not_false, Bool.and_true, Bool.and_false, Bool.true_and, Bool.false_and, gI_sI, gI_sL, gI_sA, gI_sM, gL_sI, gL_sL, gL_sA, gL_sM, aI_sI, aI_sL, aI_sA, aI_sM, aL_sI, aL_sL, aL_sA, aL_sM, Bstatement_0, Bstatement_14, Bstatement_37, Bstatement_47, Bstatement_51, Bstatement_52, Bstatement_53, Bstatement_63, Bstatement_75, Bstatement_108, Bstatement_115, Bstatement_126, Bstatement_130, Bstatement_131, Bstatement_132, Bstatement_142, Bstatement_147, Bstatement_220, Bstatement_225, Bstatement_230, Bstatement_235, Bstatement_240, Bstatement_245, Bstatement_250, Bstatement_255, Bstatement_260, oi_0, oi_1, oi_123, oi_20, oi_4, oi_41, oi_58, oi_7]; try dsimp only
        unfold Qv_statementZ
        try dsimp only
        refine StZ.o hPhi ?_
        rw [st_blk' hnn.2.1 hcb]
        refine StQ.f hF7 ?_
        exact (by repeat (first | with_reducible exact GpY.rf | with_reducible refine GpY.tr ?_ (gd_fo _) | with_reducible refine GpY.tr ?_ (gd_ef _) | with_reducible refine GpY.tr ?_ (gd_cf _) | with_reducible refine GpY.tr ?_ (gd_wt _) | with_reducible refine GpY.tr ?_ (gd_xp _) | with_reducible refine GpY.tr ?_ (gd_acc _) | with_reducible refine GpY.tr ?_ (gd_rai _) | with_reducible refine GpY.tr ?_ (gd_e _) | with_reducible refine GpY.tr ?_ (gd_o _) | with_reducible refine GpY.tr ?_ (gd_c _) | with_reducible refine GpY.tr ?_ (gd_op _) | with_reducible refine GpY.tr ?_ (gd_clp gd_e _ _) | with_reducible refine GpY.tr ?_ (gd_tl _) | with_reducible refine GpY.tr ?_ (gd_sf _ _ _) | with_reducible refine GpY.tr ?_ (gd_cl _) | with_reducible refine GpY.tr ?_ (gd_pc _) | with_reducible refine GpY.tr ?_ (gd_st _) | with_reducible refine GpY.tr ?_ (gd_rw _) | with_reducible refine GpY.tr ?_ (gd_typ _) | with_reducible refine GpY.tr ?_ (gd_dcl _) | with_reducible refine GpY.tr ?_ (gd_va2 _) | with_reducible refine GpY.tr ?_ (gd_cnd _) | with_reducible refine GpY.tr ?_ (gd_tr1 _) | with_reducible refine GpY.tr ?_ (gd_tr2 (fun _ => gd_rw) _) | with_reducible refine GpY.tr ?_ (gd_tr3 (fun _ => gd_rw) _) | with_reducible refine GpY.tr ?_ (gd_fo1 _) | with_reducible refine GpY.tr ?_ (gd_fo2 _) | with_reducible refine GpY.tr ?_ (gd_fo3 _) | with_reducible refine GpY.tr ?_ (gd_fex _) | with_reducible refine GpY.tr ?_ (pg_var.1) | with_reducible refine GpY.tr ?_ (pg_cas.1) | exact GpY.rf))
      · dsimp only [Option.toList, List.cons_append, List.nil_append, Nat.beq, gI_sI, gI_sL, gI_sA, gI_sM, gL_sI, gL_sL, gL_sA, gL_sM, aI_sI, aI_sL, aI_sA, aI_sM, aL_sI, aL_sL, aL_sA, aL_sM]
        have hR7 := SR.kr (e_ := 0) (by repeat (first | exact hR6 | refine SR.i ?_ rfl | refine SR.a ?_ rfl)) hX7 acc2
        have hg7 := FgR.kr (e_ := 0) (s := z.1) (n := n) (by repeat (first | exact hg6 | refine FgR.i ?_ rfl | refine FgR.a ?_ rfl)) (by repeat (first | exact hR6 | refine SR.i ?_ rfl | refine SR.a ?_ rfl)) hX7
        have hf7 := frR_kr hX7
        have k6_7 : 0 < gI τ7 36 := by rw [hX7.2.2.1.1 36 rfl]; exact k6_6
        have k9_7 : nT (gI τ5 49) < nT (gI τ7 49) := by rw [hX7.2.2.1.1 49 rfl]; exact k9_6
        have hZ7 : BZ N τ7 (accM (thM (beM 2 (lvN n) (coM 20 0 0 (zAt z.1) z)))) F F := BZ.tk (by repeat (first | exact hZ6 | refine BZ.i ?_ rfl | refine BZ.a ?_ rfl)) hS7 hL7
        have hK7 : KtR τ7 (accM (thM (beM 2 (lvN n) (coM 20 0 0 (zAt z.1) z)))) := KtR.tk (by repeat (first | exact hK6 | refine KtR.i ?_ | refine KtR.a ?_ (by decide))) hS7
        have hs7 : (accM (thM (beM 2 (lvN n) (coM 20 0 0 (zAt z.1) z)))).1 = (accY z.1) := congrArg accY hs6
        have hPg7 : PgZ z (thM (beM 2 (lvN n) (coM 20 0 0 (zAt z.1) z))) (accM (thM (beM 2 (lvN n) (coM 20 0 0 (zAt z.1) z)))) := PgZ.e hPg6 rfl rfl
        have k4_7 : (accM (thM (beM 2 (lvN n) (coM 20 0 0 (zAt z.1) z)))).2.2.2 = (thM (beM 2 (lvN n) (coM 20 0 0 (zAt z.1) z))).2.2.2 := rfl
        have r60_7 : aI τ7 60 = _ := (hS7.2 60).trans rfl
        refine ⟨fun h11 => absurd h11 (by decide), fun h11 => ?_⟩
        clear h11
        refine hB _ _ _ _ _ (fun m12 hm12 => ?_)
        dsimp only [ugo, uwp, ust, uct, rfd, Bstatement, Nat.beq, lv_args, rlk, rs1, rs2, rdl, rky, rcd, rno, rsw, Value.category, List.filter, List.take, List.drop, List.reverse, List.reverseAux, List.cons_append, List.nil_append, Option.toList, Int.toNat, Int.reduceToNat, if_pos, if_neg, reduceIte, ↓reduceIte, Nat.reduceAdd, Nat.reduceEqDiff, Nat.reduceBEq, beq_self_eq_true, Bool.not_true, Bool.not_false, Bool.and_true, Bool.and_false, Bool.true_and, Bool.false_and, gI_sI, gI_sL, gI_sA, gI_sM, gL_sI, gL_sL, gL_sA, gL_sM, aI_sI, aI_sL, aI_sA, aI_sM, aL_sI, aL_sL, aL_sA, aL_sM, Bstatement_0, Bstatement_14, Bstatement_37, Bstatement_47, Bstatement_51, Bstatement_52, Bstatement_53, Bstatement_63, Bstatement_75, Bstatement_108, Bstatement_115, Bstatement_126, Bstatement_130, Bstatement_131, Bstatement_132, Bstatement_142, Bstatement_147, Bstatement_220, Bstatement_225, Bstatement_230, Bstatement_235, Bstatement_240, Bstatement_245, Bstatement_250, Bstatement_255, Bstatement_260, oi_0, oi_1, oi_123, oi_20, oi_4, oi_41, oi_58, oi_7]; try dsimp only
        refine ⟨trivial, fun w13 τ13 hq13 => ?_⟩
        obtain ⟨hq13, hL13⟩ := hq13
        have hq13 := hq13 (accY z.1) n ⟨(by repeat (first | exact hR7 | refine SR.i ?_ rfl | refine SR.a ?_ rfl)), (by repeat (first | exact hg7 | refine FgR.i ?_ rfl | refine FgR.a ?_ rfl)), k9_7, by decide, (iff_of_false (by decide) (by (try simp only [frR_i, frR_a, ne_eq, Nat.reduceEqDiff, not_false_eq_true, hf7, hf6, hf5]); exact hne)), k6_7, (fun q => absurd q (by decide))⟩
        rcases hq13 with ⟨rfl, hn13, hF13⟩ | ⟨rfl, hn13, hR13, hg13, hf13, hOp13⟩
        · dsimp only [Option.toList, List.cons_append, List.nil_append, Nat.beq, gI_sI, gI_sL, gI_sA, gI_sM, gL_sI, gL_sL, gL_sA, gL_sM, aI_sI, aI_sL, aI_sA, aI_sM, aL_sI, aL_sL, aL_sA, aL_sM]
          refine ⟨fun h14 => ?_, fun h14 => absurd h14 (by decide)⟩
          clear h14
          refine hB _ _ _ _ _ (fun m15 hm15 => ?_)
          dsimp only [ugo, uwp, ust, uct, rfd, Bstatement, Nat.beq, lv_args, rlk, rs1, rs2, rdl, rky, rcd, rno, rsw, Value.category, List.filter, List.take, List.drop, List.reverse, List.reverseAux, List.cons_append, List.nil_append, Option.toList, Int.toNat, Int.reduceToNat, if_pos, if_neg, reduceIte, ↓reduceIte, Nat.reduceAdd, Nat.reduceEqDiff, Nat.reduceBEq, beq_self_eq_true, Bool.not_true, Bool.not_false, Bool.and_true, Bool.and_false, Bool.true_and, Bool.false_and, gI_sI, gI_sL, gI_sA, gI_sM, gL_sI, gL_sL, gL_sA, gL_sM, aI_sI, aI_sL, aI_sA, aI_sM, aL_sI, aL_sL, aL_sA, aL_sM, Bstatement_0, Bstatement_14, Bstatement_37, Bstatement_47, Bstatement_51, Bstatement_52, Bstatement_53, Bstatement_63, Bstatement_75, Bstatement_108, Bstatement_115, Bstatement_126, Bstatement_130, Bstatement_131, Bstatement_132, Bstatement_142, Bstatement_147, Bstatement_220, Bstatement_225, Bstatement_230, Bstatement_235, Bstatement_240, Bstatement_245, Bstatement_250, Bstatement_255, Bstatement_260, oi_0, oi_1, oi_123, oi_20, oi_4, oi_41, oi_58, oi_7]; try dsimp only
          refine hB _ _ _ _ _ (fun m16 hm16 => ?_)
          dsimp only [ugo, uwp, ust, uct, rfd, Bstatement, Nat.beq, lv_args, rlk, rs1, rs2, rdl, rky, rcd, rno, rsw, Value.category, List.filter, List.take, List.drop, List.reverse, List.reverseAux, List.cons_append, List.nil_append, Option.toList, Int.toNat, Int.reduceToNat, if_pos, if_neg, reduceIte, ↓reduceIte, Nat.reduceAdd, Nat.reduceEqDiff, Nat.reduceBEq, beq_self_eq_true, Bool.not_true, Bool.not_false, Bool.and_true, Bool.and_false, Bool.true_and, Bool.false_and, gI_sI, gI_sL, gI_sA, gI_sM, gL_sI, gL_sL, gL_sA, gL_sM, aI_sI, aI_sL, aI_sA, aI_sM, aL_sI, aL_sL, aL_sA, aL_sM, Bstatement_0, Bstatement_14, Bstatement_37, Bstatement_47, Bstatement_51, Bstatement_52, Bstatement_53, Bstatement_63, Bstatement_75, Bstatement_108, Bstatement_115, Bstatement_126, Bstatement_130, Bstatement_131, Bstatement_132, Bstatement_142, Bstatement_147, Bstatement_220, Bstatement_225, Bstatement_230, Bstatement_235, Bstatement_240, Bstatement_245, Bstatement_250, Bstatement_255, Bstatement_260, oi_0, oi_1, oi_123, oi_20, oi_4, oi_41, oi_58, oi_7]; try dsimp only
          unfold Qv_statementZ
          try dsimp only
          refine StZ.o hPhi ?_
          rw [st_blk' hnn.2.1 hcb, rw_0 hn13]
          refine StQ.f hF13 ?_
          exact (by repeat (first | with_reducible exact GpY.rf | with_reducible refine GpY.tr ?_ (gd_fo _) | with_reducible refine GpY.tr ?_ (gd_ef _) | with_reducible refine GpY.tr ?_ (gd_cf _) | with_reducible refine GpY.tr ?_ (gd_wt _) | with_reducible refine GpY.tr ?_ (gd_xp _) | with_reducible refine GpY.tr ?_ (gd_acc _) | with_reducible refine GpY.tr ?_ (gd_rai _) | with_reducible refine GpY.tr ?_ (gd_e _) | with_reducible refine GpY.tr ?_ (gd_o _) | with_reducible refine GpY.tr ?_ (gd_c _) | with_reducible refine GpY.tr ?_ (gd_op _) | with_reducible refine GpY.tr ?_ (gd_clp gd_e _ _) | with_reducible refine GpY.tr ?_ (gd_tl _) | with_reducible refine GpY.tr ?_ (gd_sf _ _ _) | with_reducible refine GpY.tr ?_ (gd_cl _) | with_reducible refine GpY.tr ?_ (gd_pc _) | with_reducible refine GpY.tr ?_ (gd_st _) | with_reducible refine GpY.tr ?_ (gd_rw _) | with_reducible refine GpY.tr ?_ (gd_typ _) | with_reducible refine GpY.tr ?_ (gd_dcl _) | with_reducible refine GpY.tr ?_ (gd_va2 _) | with_reducible refine GpY.tr ?_ (gd_cnd _) | with_reducible refine GpY.tr ?_ (gd_tr1 _) | with_reducible refine GpY.tr ?_ (gd_tr2 (fun _ => gd_rw) _) | with_reducible refine GpY.tr ?_ (gd_tr3 (fun _ => gd_rw) _) | with_reducible refine GpY.tr ?_ (gd_fo1 _) | with_reducible refine GpY.tr ?_ (gd_fo2 _) | with_reducible refine GpY.tr ?_ (gd_fo3 _) | with_reducible refine GpY.tr ?_ (gd_fex _) | with_reducible refine GpY.tr ?_ (pg_var.1) | with_reducible refine GpY.tr ?_ (pg_cas.1) | exact GpY.rf))
        · dsimp only [Option.toList, List.cons_append, List.nil_append, Nat.beq, gI_sI, gI_sL, gI_sA, gI_sM, gL_sI, gL_sL, gL_sA, gL_sM, aI_sI, aI_sL, aI_sA, aI_sM, aL_sI, aL_sL, aL_sA, aL_sM]
          have hf13 : frR τ13 = (1 : Int) :: _ := hf13
          have hfi : fiS (accM (thM (beM 2 (lvN n) (coM 20 0 0 (zAt z.1) z)))) (snM z) = zAt z.1 := PgZ.fh hPg7 rfl rfl
          have hZf := BZ.fr (k := 1) (kd := 2) (lv := lvN n) (x := ([-1, -1, -1] ++ [])) hZ hZ7 ((SgZ.e rfl).tr hPg7.1) ((congrArg Prod.fst (show (accM (thM (beM 2 (lvN n) (coM 20 0 0 (zAt z.1) z)))).2.2.2 = (thM (beM 2 (lvN n) (coM 20 0 0 (zAt z.1) z))).2.2.2 from k4_7)).trans rfl) ((congrArg (fun y => y.2.2.2) (show (accM (thM (beM 2 (lvN n) (coM 20 0 0 (zAt z.1) z)))).2.2.2 = (thM (beM 2 (lvN n) (coM 20 0 0 (zAt z.1) z))).2.2.2 from k4_7)).trans rfl) hu (by decide) rfl (fun q => absurd (show (1 : Int) = 7 from q) (by decide))
          have hZ13 : BZ N τ13 (arM (snM z) (accM (thM (beM 2 (lvN n) (coM 20 0 0 (zAt z.1) z))))) ((frB 1 z ([-1, -1, -1] ++ [])) :: F) ((frB 1 z ([-1, -1, -1] ++ [])) :: F) := BZ.op (a := (frB 1 z ([-1, -1, -1] ++ []))) (F := F) (z := (arM (snM z) (accM (thM (beM 2 (lvN n) (coM 20 0 0 (zAt z.1) z)))))) (by repeat (first | exact hZf | refine BZ.i ?_ rfl | refine BZ.a ?_ rfl)) hOp13 hL13 rfl hkI (fun _ => ⟨hstI, (show itN (accM (thM (beM 2 (lvN n) (coM 20 0 0 (zAt z.1) z)))).2.1 (cnM z) = some (.inr (20, 0, 0, fiS (accM (thM (beM 2 (lvN n) (coM 20 0 0 (zAt z.1) z)))) (snM z), -1)) by rw [hfi]; exact hPg7.st), (show (aI _ 60 (tnM z)).toInt = fiS (accM (thM (beM 2 (lvN n) (coM 20 0 0 (zAt z.1) z)))) (snM z) by rw [hfi]; exact (congrArg Int32.toInt (congrFun r60_7 _)).trans r60_6)⟩) ⟨(fun q => absurd (show (1 : Int) = 7 from q) (by decide)), (fun q => absurd (show (1 : Int) = 0 from q) (by decide))⟩ (fun q => absurd (show (1 : Int) = 9 from q) (by decide))
          have hK13 : KtR τ13 (arM (snM z) (accM (thM (beM 2 (lvN n) (coM 20 0 0 (zAt z.1) z))))) := KtR.z (by repeat (first | exact hK7 | refine KtR.i ?_ | refine KtR.a ?_ (by decide))) rfl rfl (fun a h1 h2 => hOp13.2.2.2.1 a (by omega))
          have hs13 : (arM (snM z) (accM (thM (beM 2 (lvN n) (coM 20 0 0 (zAt z.1) z))))).1 = (accY z.1) := hs7
          have hPg13 : PgZ z (thM (beM 2 (lvN n) (coM 20 0 0 (zAt z.1) z))) (arM (snM z) (accM (thM (beM 2 (lvN n) (coM 20 0 0 (zAt z.1) z))))) := PgZ.e hPg7 rfl rfl
          refine ⟨fun h17 => absurd h17 (by decide), fun h17 => ?_⟩
          clear h17
          refine hB _ _ _ _ _ (fun m18 hm18 => ?_)
          dsimp only [ugo, uwp, ust, uct, rfd, Bstatement, Nat.beq, lv_args, rlk, rs1, rs2, rdl, rky, rcd, rno, rsw, Value.category, List.filter, List.take, List.drop, List.reverse, List.reverseAux, List.cons_append, List.nil_append, Option.toList, Int.toNat, Int.reduceToNat, if_pos, if_neg, reduceIte, ↓reduceIte, Nat.reduceAdd, Nat.reduceEqDiff, Nat.reduceBEq, beq_self_eq_true, Bool.not_true, Bool.not_false, Bool.and_true, Bool.and_false, Bool.true_and, Bool.false_and, gI_sI, gI_sL, gI_sA, gI_sM, gL_sI, gL_sL, gL_sA, gL_sM, aI_sI, aI_sL, aI_sA, aI_sM, aL_sI, aL_sL, aL_sA, aL_sM, Bstatement_0, Bstatement_14, Bstatement_37, Bstatement_47, Bstatement_51, Bstatement_52, Bstatement_53, Bstatement_63, Bstatement_75, Bstatement_108, Bstatement_115, Bstatement_126, Bstatement_130, Bstatement_131, Bstatement_132, Bstatement_142, Bstatement_147, Bstatement_220, Bstatement_225, Bstatement_230, Bstatement_235, Bstatement_240, Bstatement_245, Bstatement_250, Bstatement_255, Bstatement_260, oi_0, oi_1, oi_123, oi_20, oi_4, oi_41, oi_58, oi_7]; try dsimp only
          refine hB _ _ _ _ _ (fun m19 hm19 => ?_)
          dsimp only [ugo, uwp, ust, uct, rfd, Bstatement, Nat.beq, lv_args, rlk, rs1, rs2, rdl, rky, rcd, rno, rsw, Value.category, List.filter, List.take, List.drop, List.reverse, List.reverseAux, List.cons_append, List.nil_append, Option.toList, Int.toNat, Int.reduceToNat, if_pos, if_neg, reduceIte, ↓reduceIte, Nat.reduceAdd, Nat.reduceEqDiff, Nat.reduceBEq, beq_self_eq_true, Bool.not_true, Bool.not_false, Bool.and_true, Bool.and_false, Bool.true_and, Bool.false_and, gI_sI, gI_sL, gI_sA, gI_sM, gL_sI, gL_sL, gL_sA, gL_sM, aI_sI, aI_sL, aI_sA, aI_sM, aL_sI, aL_sL, aL_sA, aL_sM, Bstatement_0, Bstatement_14, Bstatement_37, Bstatement_47, Bstatement_51, Bstatement_52, Bstatement_53, Bstatement_63, Bstatement_75, Bstatement_108, Bstatement_115, Bstatement_126, Bstatement_130, Bstatement_131, Bstatement_132, Bstatement_142, Bstatement_147, Bstatement_220, Bstatement_225, Bstatement_230, Bstatement_235, Bstatement_240, Bstatement_245, Bstatement_250, Bstatement_255, Bstatement_260, oi_0, oi_1, oi_123, oi_20, oi_4, oi_41, oi_58, oi_7]; try dsimp only
          unfold Qv_statementZ
          try dsimp only
          exact Or.inr ⟨rfl, (arM (snM z) (accM (thM (beM 2 (lvN n) (coM 20 0 0 (zAt z.1) z))))), (n - 1), (frB 1 z ([-1, -1, -1] ++ []) :: F), (by rw [show (arM (snM z) (accM (thM (beM 2 (lvN n) (coM 20 0 0 (zAt z.1) z))))).1 = (accY z.1) from hs13]; exact (by repeat (first | exact hR13 | refine SR.i ?_ rfl | refine SR.a ?_ rfl))), (by repeat (first | exact hg13 | refine FgR.i ?_ rfl | refine FgR.a ?_ rfl)), (by repeat (first | exact hZ13 | refine BZ.i ?_ rfl | refine BZ.a ?_ rfl)), (by repeat (first | exact hK13 | refine KtR.i ?_ | refine KtR.a ?_ (by decide))), hw, (fun q => absurd (show (1 : Int) = 7 from q) (by decide)), (by rw [show (arM (snM z) (accM (thM (beM 2 (lvN n) (coM 20 0 0 (zAt z.1) z))))).1 = (accY z.1) from hs13]; exact GpY.a1 (by repeat (first | with_reducible exact GpY.rf | with_reducible refine GpY.tr ?_ (gd_fo _) | with_reducible refine GpY.tr ?_ (gd_ef _) | with_reducible refine GpY.tr ?_ (gd_cf _) | with_reducible refine GpY.tr ?_ (gd_wt _) | with_reducible refine GpY.tr ?_ (gd_xp _) | with_reducible refine GpY.tr ?_ (gd_acc _) | with_reducible refine GpY.tr ?_ (gd_rai _) | with_reducible refine GpY.tr ?_ (gd_e _) | with_reducible refine GpY.tr ?_ (gd_o _) | with_reducible refine GpY.tr ?_ (gd_c _) | with_reducible refine GpY.tr ?_ (gd_op _) | with_reducible refine GpY.tr ?_ (gd_clp gd_e _ _) | with_reducible refine GpY.tr ?_ (gd_tl _) | with_reducible refine GpY.tr ?_ (gd_sf _ _ _) | with_reducible refine GpY.tr ?_ (gd_cl _) | with_reducible refine GpY.tr ?_ (gd_pc _) | with_reducible refine GpY.tr ?_ (gd_st _) | with_reducible refine GpY.tr ?_ (gd_rw _) | with_reducible refine GpY.tr ?_ (gd_typ _) | with_reducible refine GpY.tr ?_ (gd_dcl _) | with_reducible refine GpY.tr ?_ (gd_va2 _) | with_reducible refine GpY.tr ?_ (gd_cnd _) | with_reducible refine GpY.tr ?_ (gd_tr1 _) | with_reducible refine GpY.tr ?_ (gd_tr2 (fun _ => gd_rw) _) | with_reducible refine GpY.tr ?_ (gd_tr3 (fun _ => gd_rw) _) | with_reducible refine GpY.tr ?_ (gd_fo1 _) | with_reducible refine GpY.tr ?_ (gd_fo2 _) | with_reducible refine GpY.tr ?_ (gd_fo3 _) | with_reducible refine GpY.tr ?_ (gd_fex _) | with_reducible refine GpY.tr ?_ (gp_varZ) | with_reducible refine GpY.tr ?_ (gp_casZ) | exact GpY.rf)) hR.1.a5.2 ha1), (sm_bl' hn13 hcb).symm⟩
    · dsimp only [Option.toList, List.cons_append, List.nil_append, Nat.beq, gI_sI, gI_sL, gI_sA, gI_sM, gL_sI, gL_sL, gL_sA, gL_sM, aI_sI, aI_sL, aI_sA, aI_sM, aL_sI, aL_sL, aL_sA, aL_sM]
      have hc2 : ¬ codY z.1 = 2 := fun q => hk2 (he2.mpr q)
      refine ⟨fun h20 => ?_, fun h20 => absurd h20 (by decide)⟩
      clear h20
      refine hB _ _ _ _ _ (fun m21 hm21 => ?_)
      dsimp only [ugo, uwp, ust, uct, rfd, Bstatement, Nat.beq, lv_args, rlk, rs1, rs2, rdl, rky, rcd, rno, rsw, Value.category, List.filter, List.take, List.drop, List.reverse, List.reverseAux, List.cons_append, List.nil_append, Option.toList, Int.toNat, Int.reduceToNat, if_pos, if_neg, reduceIte, ↓reduceIte, Nat.reduceAdd, Nat.reduceEqDiff, Nat.reduceBEq, beq_self_eq_true, Bool.not_true, Bool.not_false, Bool.and_true, Bool.and_false, Bool.true_and, Bool.false_and, gI_sI, gI_sL, gI_sA, gI_sM, gL_sI, gL_sL, gL_sA, gL_sM, aI_sI, aI_sL, aI_sA, aI_sM, aL_sI, aL_sL, aL_sA, aL_sM, Bstatement_0, Bstatement_14, Bstatement_37, Bstatement_47, Bstatement_51, Bstatement_52, Bstatement_53, Bstatement_63, Bstatement_75, Bstatement_108, Bstatement_115, Bstatement_126, Bstatement_130, Bstatement_131, Bstatement_132, Bstatement_142, Bstatement_147, Bstatement_220, Bstatement_225, Bstatement_230, Bstatement_235, Bstatement_240, Bstatement_245, Bstatement_250, Bstatement_255, Bstatement_260, oi_0, oi_1, oi_123, oi_20, oi_4, oi_41, oi_58, oi_7]; try dsimp only
      intro p22
      refine ⟨fun h23 => ?_, fun h23 => ?_⟩
      · refine hB _ _ _ _ _ (fun m24 hm24 => ?_)
        dsimp only [ugo, uwp, ust, uct, rfd, Bstatement, Nat.beq, lv_args, rlk, rs1, rs2, rdl, rky, rcd, rno, rsw, Value.category, List.filter, List.take, List.drop, List.reverse, List.reverseAux, List.cons_append, List.nil_append, Option.toList, Int.toNat, Int.reduceToNat, if_pos, if_neg, reduceIte, ↓reduceIte, Nat.reduceAdd, Nat.reduceEqDiff, Nat.reduceBEq, beq_self_eq_true, Bool.not_true, Bool.not_false, Bool.and_true, Bool.and_false, Bool.true_and, Bool.false_and, gI_sI, gI_sL, gI_sA, gI_sM, gL_sI, gL_sL, gL_sA, gL_sM, aI_sI, aI_sL, aI_sA, aI_sM, aL_sI, aL_sL, aL_sA, aL_sM, Bstatement_0, Bstatement_14, Bstatement_37, Bstatement_47, Bstatement_51, Bstatement_52, Bstatement_53, Bstatement_63, Bstatement_75, Bstatement_108, Bstatement_115, Bstatement_126, Bstatement_130, Bstatement_131, Bstatement_132, Bstatement_142, Bstatement_147, Bstatement_220, Bstatement_225, Bstatement_230, Bstatement_235, Bstatement_240, Bstatement_245, Bstatement_250, Bstatement_255, Bstatement_260, oi_0, oi_1, oi_123, oi_20, oi_4, oi_41, oi_58, oi_7]; try dsimp only
        intro p25
        refine ⟨fun h26 => ?_, fun h26 => ?_⟩
        · refine hB _ _ _ _ _ (fun m27 hm27 => ?_)
          dsimp only [ugo, uwp, ust, uct, rfd, Bstatement, Nat.beq, lv_args, rlk, rs1, rs2, rdl, rky, rcd, rno, rsw, Value.category, List.filter, List.take, List.drop, List.reverse, List.reverseAux, List.cons_append, List.nil_append, Option.toList, Int.toNat, Int.reduceToNat, if_pos, if_neg, reduceIte, ↓reduceIte, Nat.reduceAdd, Nat.reduceEqDiff, Nat.reduceBEq, beq_self_eq_true, Bool.not_true, Bool.not_false, Bool.and_true, Bool.and_false, Bool.true_and, Bool.false_and, gI_sI, gI_sL, gI_sA, gI_sM, gL_sI, gL_sL, gL_sA, gL_sM, aI_sI, aI_sL, aI_sA, aI_sM, aL_sI, aL_sL, aL_sA, aL_sM, Bstatement_0, Bstatement_14, Bstatement_37, Bstatement_47, Bstatement_51, Bstatement_52, Bstatement_53, Bstatement_63, Bstatement_75, Bstatement_108, Bstatement_115, Bstatement_126, Bstatement_130, Bstatement_131, Bstatement_132, Bstatement_142, Bstatement_147, Bstatement_220, Bstatement_225, Bstatement_230, Bstatement_235, Bstatement_240, Bstatement_245, Bstatement_250, Bstatement_255, Bstatement_260, oi_0, oi_1, oi_123, oi_20, oi_4, oi_41, oi_58, oi_7]; try dsimp only
          intro p28
          refine ⟨fun h29 => ?_, fun h29 => ?_⟩
          · refine hB _ _ _ _ _ (fun m30 hm30 => ?_)
            dsimp only [ugo, uwp, ust, uct, rfd, Bstatement, Nat.beq, lv_args, rlk, rs1, rs2, rdl, rky, rcd, rno, rsw, Value.category, List.filter, List.take, List.drop, List.reverse, List.reverseAux, List.cons_append, List.nil_append, Option.toList, Int.toNat, Int.reduceToNat, if_pos, if_neg, reduceIte, ↓reduceIte, Nat.reduceAdd, Nat.reduceEqDiff, Nat.reduceBEq, beq_self_eq_true, Bool.not_true, Bool.not_false, Bool.and_true, Bool.and_false, Bool.true_and, Bool.false_and, gI_sI, gI_sL, gI_sA, gI_sM, gL_sI, gL_sL, gL_sA, gL_sM, aI_sI, aI_sL, aI_sA, aI_sM, aL_sI, aL_sL, aL_sA, aL_sM, Bstatement_0, Bstatement_14, Bstatement_37, Bstatement_47, Bstatement_51, Bstatement_52, Bstatement_53, Bstatement_63, Bstatement_75, Bstatement_108, Bstatement_115, Bstatement_126, Bstatement_130, Bstatement_131, Bstatement_132, Bstatement_142, Bstatement_147, Bstatement_220, Bstatement_225, Bstatement_230, Bstatement_235, Bstatement_240, Bstatement_245, Bstatement_250, Bstatement_255, Bstatement_260, oi_0, oi_1, oi_123, oi_20, oi_4, oi_41, oi_58, oi_7]; try dsimp only
            have hcw : codY z.1 = 56 := (SR.sh hR).wd (x := 6) (by decide) |>.mp ⟨by lia, Int32.toInt_inj.mp h29⟩
            refine ⟨trivial, fun w31 τ31 hq31 => ?_⟩
            obtain ⟨hq31, hL31⟩ := hq31
            have hq31 : StZ N τ31 _ w31 := hq31 N z n F ⟨(by repeat (first | exact hR | refine SR.i ?_ rfl | refine SR.a ?_ rfl)), (by repeat (first | exact hg | refine FgR.i ?_ rfl | refine FgR.a ?_ rfl)), (by (try simp only [frR_i, frR_a, ne_eq, Nat.reduceEqDiff, not_false_eq_true]); exact hne), (by repeat (first | exact hZ | refine BZ.i ?_ rfl | refine BZ.a ?_ rfl)), (by repeat (first | exact hK | refine KtR.i ?_ | refine KtR.a ?_ (by decide))), hw, hu, ha1, (by omega)⟩
            have hv31 : w31 = some (.int 0) ∨ w31 = some (.int 1) := hq31.imp (fun q => q.1) (fun q => q.1)
            rcases hv31 with rfl | rfl
            · dsimp only [Option.toList, List.cons_append, List.nil_append, Nat.beq, gI_sI, gI_sL, gI_sA, gI_sM, gL_sI, gL_sL, gL_sA, gL_sM, aI_sI, aI_sL, aI_sA, aI_sM, aL_sI, aL_sL, aL_sA, aL_sM]
              unfold Qv_statementZ
              try dsimp only
              exact hq31
            · dsimp only [Option.toList, List.cons_append, List.nil_append, Nat.beq, gI_sI, gI_sL, gI_sA, gI_sM, gL_sI, gL_sL, gL_sA, gL_sM, aI_sI, aI_sL, aI_sA, aI_sM, aL_sI, aL_sL, aL_sA, aL_sM]
              unfold Qv_statementZ
              try dsimp only
              exact hq31
          refine ⟨fun h32 => ?_, fun h32 => ?_⟩
          · refine hB _ _ _ _ _ (fun m33 hm33 => ?_)
            dsimp only [ugo, uwp, ust, uct, rfd, Bstatement, Nat.beq, lv_args, rlk, rs1, rs2, rdl, rky, rcd, rno, rsw, Value.category, List.filter, List.take, List.drop, List.reverse, List.reverseAux, List.cons_append, List.nil_append, Option.toList, Int.toNat, Int.reduceToNat, if_pos, if_neg, reduceIte, ↓reduceIte, Nat.reduceAdd, Nat.reduceEqDiff, Nat.reduceBEq, beq_self_eq_true, Bool.not_true, Bool.not_false, Bool.and_true, Bool.and_false, Bool.true_and, Bool.false_and, gI_sI, gI_sL, gI_sA, gI_sM, gL_sI, gL_sL, gL_sA, gL_sM, aI_sI, aI_sL, aI_sA, aI_sM, aL_sI, aL_sL, aL_sA, aL_sM, Bstatement_0, Bstatement_14, Bstatement_37, Bstatement_47, Bstatement_51, Bstatement_52, Bstatement_53, Bstatement_63, Bstatement_75, Bstatement_108, Bstatement_115, Bstatement_126, Bstatement_130, Bstatement_131, Bstatement_132, Bstatement_142, Bstatement_147, Bstatement_220, Bstatement_225, Bstatement_230, Bstatement_235, Bstatement_240, Bstatement_245, Bstatement_250, Bstatement_255, Bstatement_260, oi_0, oi_1, oi_123, oi_20, oi_4, oi_41, oi_58, oi_7]; try dsimp only
            have h6n : ¬ (codY z.1 = 80 ∧ cobY z.1 = 6) := fun q => h23 ((SR.sh hR).ki.2.2.1.mpr q.1)
            have hcw : codY z.1 = 57 := (SR.sh hR).wd (x := 7) (by decide) |>.mp ⟨by lia, Int32.toInt_inj.mp h32⟩
            refine ⟨trivial, fun w34 τ34 hq34 => ?_⟩
            obtain ⟨hq34, hL34⟩ := hq34
            have hq34 : StZ N τ34 _ w34 := hq34 N z n F ⟨(by repeat (first | exact hR | refine SR.i ?_ rfl | refine SR.a ?_ rfl)), (by repeat (first | exact hg | refine FgR.i ?_ rfl | refine FgR.a ?_ rfl)), (by (try simp only [frR_i, frR_a, ne_eq, Nat.reduceEqDiff, not_false_eq_true]); exact hne), (by repeat (first | exact hZ | refine BZ.i ?_ rfl | refine BZ.a ?_ rfl)), (by repeat (first | exact hK | refine KtR.i ?_ | refine KtR.a ?_ (by decide))), hw, hu, ha1, (by refine ⟨?_, ?_, ?_, ?_, ?_, ?_, ?_, ?_, ?_, ?_, ?_, h6n⟩ <;> omega)⟩
            have hv34 : w34 = some (.int 0) ∨ w34 = some (.int 1) := hq34.imp (fun q => q.1) (fun q => q.1)
            rcases hv34 with rfl | rfl
            · dsimp only [Option.toList, List.cons_append, List.nil_append, Nat.beq, gI_sI, gI_sL, gI_sA, gI_sM, gL_sI, gL_sL, gL_sA, gL_sM, aI_sI, aI_sL, aI_sA, aI_sM, aL_sI, aL_sL, aL_sA, aL_sM]
              unfold Qv_statementZ
              try dsimp only
              exact hq34
            · dsimp only [Option.toList, List.cons_append, List.nil_append, Nat.beq, gI_sI, gI_sL, gI_sA, gI_sM, gL_sI, gL_sL, gL_sA, gL_sM, aI_sI, aI_sL, aI_sA, aI_sM, aL_sI, aL_sL, aL_sA, aL_sM]
              unfold Qv_statementZ
              try dsimp only
              exact hq34
          refine ⟨fun h35 => ?_, fun h35 => ?_⟩
          · refine hB _ _ _ _ _ (fun m36 hm36 => ?_)
            dsimp only [ugo, uwp, ust, uct, rfd, Bstatement, Nat.beq, lv_args, rlk, rs1, rs2, rdl, rky, rcd, rno, rsw, Value.category, List.filter, List.take, List.drop, List.reverse, List.reverseAux, List.cons_append, List.nil_append, Option.toList, Int.toNat, Int.reduceToNat, if_pos, if_neg, reduceIte, ↓reduceIte, Nat.reduceAdd, Nat.reduceEqDiff, Nat.reduceBEq, beq_self_eq_true, Bool.not_true, Bool.not_false, Bool.and_true, Bool.and_false, Bool.true_and, Bool.false_and, gI_sI, gI_sL, gI_sA, gI_sM, gL_sI, gL_sL, gL_sA, gL_sM, aI_sI, aI_sL, aI_sA, aI_sM, aL_sI, aL_sL, aL_sA, aL_sM, Bstatement_0, Bstatement_14, Bstatement_37, Bstatement_47, Bstatement_51, Bstatement_52, Bstatement_53, Bstatement_63, Bstatement_75, Bstatement_108, Bstatement_115, Bstatement_126, Bstatement_130, Bstatement_131, Bstatement_132, Bstatement_142, Bstatement_147, Bstatement_220, Bstatement_225, Bstatement_230, Bstatement_235, Bstatement_240, Bstatement_245, Bstatement_250, Bstatement_255, Bstatement_260, oi_0, oi_1, oi_123, oi_20, oi_4, oi_41, oi_58, oi_7]; try dsimp only
            have hcw : codY z.1 = 58 := (SR.sh hR).wd (x := 8) (by decide) |>.mp ⟨by lia, Int32.toInt_inj.mp h35⟩
            refine ⟨trivial, fun w37 τ37 hq37 => ?_⟩
            obtain ⟨hq37, hL37⟩ := hq37
            have hq37 : StZ N τ37 _ w37 := hq37 N z n F ⟨(by repeat (first | exact hR | refine SR.i ?_ rfl | refine SR.a ?_ rfl)), (by repeat (first | exact hg | refine FgR.i ?_ rfl | refine FgR.a ?_ rfl)), (by (try simp only [frR_i, frR_a, ne_eq, Nat.reduceEqDiff, not_false_eq_true]); exact hne), (by repeat (first | exact hZ | refine BZ.i ?_ rfl | refine BZ.a ?_ rfl)), (by repeat (first | exact hK | refine KtR.i ?_ | refine KtR.a ?_ (by decide))), hw, hu, ha1, (by omega)⟩
            have hv37 : w37 = some (.int 0) ∨ w37 = some (.int 1) := hq37.imp (fun q => q.1) (fun q => q.1)
            rcases hv37 with rfl | rfl
            · dsimp only [Option.toList, List.cons_append, List.nil_append, Nat.beq, gI_sI, gI_sL, gI_sA, gI_sM, gL_sI, gL_sL, gL_sA, gL_sM, aI_sI, aI_sL, aI_sA, aI_sM, aL_sI, aL_sL, aL_sA, aL_sM]
              unfold Qv_statementZ
              try dsimp only
              exact hq37
            · dsimp only [Option.toList, List.cons_append, List.nil_append, Nat.beq, gI_sI, gI_sL, gI_sA, gI_sM, gL_sI, gL_sL, gL_sA, gL_sM, aI_sI, aI_sL, aI_sA, aI_sM, aL_sI, aL_sL, aL_sA, aL_sM]
              unfold Qv_statementZ
              try dsimp only
              exact hq37
          refine ⟨fun h38 => ?_, fun h38 => ?_⟩
          · refine hB _ _ _ _ _ (fun m39 hm39 => ?_)
            dsimp only [ugo, uwp, ust, uct, rfd, Bstatement, Nat.beq, lv_args, rlk, rs1, rs2, rdl, rky, rcd, rno, rsw, Value.category, List.filter, List.take, List.drop, List.reverse, List.reverseAux, List.cons_append, List.nil_append, Option.toList, Int.toNat, Int.reduceToNat, if_pos, if_neg, reduceIte, ↓reduceIte, Nat.reduceAdd, Nat.reduceEqDiff, Nat.reduceBEq, beq_self_eq_true, Bool.not_true, Bool.not_false, Bool.and_true, Bool.and_false, Bool.true_and, Bool.false_and, gI_sI, gI_sL, gI_sA, gI_sM, gL_sI, gL_sL, gL_sA, gL_sM, aI_sI, aI_sL, aI_sA, aI_sM, aL_sI, aL_sL, aL_sA, aL_sM, Bstatement_0, Bstatement_14, Bstatement_37, Bstatement_47, Bstatement_51, Bstatement_52, Bstatement_53, Bstatement_63, Bstatement_75, Bstatement_108, Bstatement_115, Bstatement_126, Bstatement_130, Bstatement_131, Bstatement_132, Bstatement_142, Bstatement_147, Bstatement_220, Bstatement_225, Bstatement_230, Bstatement_235, Bstatement_240, Bstatement_245, Bstatement_250, Bstatement_255, Bstatement_260, oi_0, oi_1, oi_123, oi_20, oi_4, oi_41, oi_58, oi_7]; try dsimp only
            have hcw : codY z.1 = 60 := (SR.sh hR).wd (x := 9) (by decide) |>.mp ⟨by lia, Int32.toInt_inj.mp h38⟩
            refine ⟨trivial, fun w40 τ40 hq40 => ?_⟩
            obtain ⟨hq40, hL40⟩ := hq40
            have hq40 : StZ N τ40 _ w40 := hq40 N z n F ⟨(by repeat (first | exact hR | refine SR.i ?_ rfl | refine SR.a ?_ rfl)), (by repeat (first | exact hg | refine FgR.i ?_ rfl | refine FgR.a ?_ rfl)), (by (try simp only [frR_i, frR_a, ne_eq, Nat.reduceEqDiff, not_false_eq_true]); exact hne), (by repeat (first | exact hZ | refine BZ.i ?_ rfl | refine BZ.a ?_ rfl)), (by repeat (first | exact hK | refine KtR.i ?_ | refine KtR.a ?_ (by decide))), hw, hu, ha1, (by omega)⟩
            have hv40 : w40 = some (.int 0) ∨ w40 = some (.int 1) := hq40.imp (fun q => q.1) (fun q => q.1)
            rcases hv40 with rfl | rfl
            · dsimp only [Option.toList, List.cons_append, List.nil_append, Nat.beq, gI_sI, gI_sL, gI_sA, gI_sM, gL_sI, gL_sL, gL_sA, gL_sM, aI_sI, aI_sL, aI_sA, aI_sM, aL_sI, aL_sL, aL_sA, aL_sM]
              unfold Qv_statementZ
              try dsimp only
              exact hq40
            · dsimp only [Option.toList, List.cons_append, List.nil_append, Nat.beq, gI_sI, gI_sL, gI_sA, gI_sM, gL_sI, gL_sL, gL_sA, gL_sM, aI_sI, aI_sL, aI_sA, aI_sM, aL_sI, aL_sL, aL_sA, aL_sM]
              unfold Qv_statementZ
              try dsimp only
              exact hq40
          refine ⟨fun h41 => ?_, fun h41 => ?_⟩
          · refine hB _ _ _ _ _ (fun m42 hm42 => ?_)
            dsimp only [ugo, uwp, ust, uct, rfd, Bstatement, Nat.beq, lv_args, rlk, rs1, rs2, rdl, rky, rcd, rno, rsw, Value.category, List.filter, List.take, List.drop, List.reverse, List.reverseAux, List.cons_append, List.nil_append, Option.toList, Int.toNat, Int.reduceToNat, if_pos, if_neg, reduceIte, ↓reduceIte, Nat.reduceAdd, Nat.reduceEqDiff, Nat.reduceBEq, beq_self_eq_true, Bool.not_true, Bool.not_false, Bool.and_true, Bool.and_false, Bool.true_and, Bool.false_and, gI_sI, gI_sL, gI_sA, gI_sM, gL_sI, gL_sL, gL_sA, gL_sM, aI_sI, aI_sL, aI_sA, aI_sM, aL_sI, aL_sL, aL_sA, aL_sM, Bstatement_0, Bstatement_14, Bstatement_37, Bstatement_47, Bstatement_51, Bstatement_52, Bstatement_53, Bstatement_63, Bstatement_75, Bstatement_108, Bstatement_115, Bstatement_126, Bstatement_130, Bstatement_131, Bstatement_132, Bstatement_142, Bstatement_147, Bstatement_220, Bstatement_225, Bstatement_230, Bstatement_235, Bstatement_240, Bstatement_245, Bstatement_250, Bstatement_255, Bstatement_260, oi_0, oi_1, oi_123, oi_20, oi_4, oi_41, oi_58, oi_7]; try dsimp only
            have hcw : codY z.1 = 59 := (SR.sh hR).wd (x := 10) (by decide) |>.mp ⟨by lia, Int32.toInt_inj.mp h41⟩
            refine ⟨trivial, fun w43 τ43 hq43 => ?_⟩
            obtain ⟨hq43, hL43⟩ := hq43
            have hq43 : StZ N τ43 _ w43 := hq43 N z n F ⟨(by repeat (first | exact hR | refine SR.i ?_ rfl | refine SR.a ?_ rfl)), (by repeat (first | exact hg | refine FgR.i ?_ rfl | refine FgR.a ?_ rfl)), (by (try simp only [frR_i, frR_a, ne_eq, Nat.reduceEqDiff, not_false_eq_true]); exact hne), (by repeat (first | exact hZ | refine BZ.i ?_ rfl | refine BZ.a ?_ rfl)), (by repeat (first | exact hK | refine KtR.i ?_ | refine KtR.a ?_ (by decide))), hw, hu, ha1, (by omega)⟩
            have hv43 : w43 = some (.int 0) ∨ w43 = some (.int 1) := hq43.imp (fun q => q.1) (fun q => q.1)
            rcases hv43 with rfl | rfl
            · dsimp only [Option.toList, List.cons_append, List.nil_append, Nat.beq, gI_sI, gI_sL, gI_sA, gI_sM, gL_sI, gL_sL, gL_sA, gL_sM, aI_sI, aI_sL, aI_sA, aI_sM, aL_sI, aL_sL, aL_sA, aL_sM]
              unfold Qv_statementZ
              try dsimp only
              exact hq43
            · dsimp only [Option.toList, List.cons_append, List.nil_append, Nat.beq, gI_sI, gI_sL, gI_sA, gI_sM, gL_sI, gL_sL, gL_sA, gL_sM, aI_sI, aI_sL, aI_sA, aI_sM, aL_sI, aL_sL, aL_sA, aL_sM]
              unfold Qv_statementZ
              try dsimp only
              exact hq43
          refine ⟨fun h44 => ?_, fun h44 => ?_⟩
          · refine hB _ _ _ _ _ (fun m45 hm45 => ?_)
            dsimp only [ugo, uwp, ust, uct, rfd, Bstatement, Nat.beq, lv_args, rlk, rs1, rs2, rdl, rky, rcd, rno, rsw, Value.category, List.filter, List.take, List.drop, List.reverse, List.reverseAux, List.cons_append, List.nil_append, Option.toList, Int.toNat, Int.reduceToNat, if_pos, if_neg, reduceIte, ↓reduceIte, Nat.reduceAdd, Nat.reduceEqDiff, Nat.reduceBEq, beq_self_eq_true, Bool.not_true, Bool.not_false, Bool.and_true, Bool.and_false, Bool.true_and, Bool.false_and, gI_sI, gI_sL, gI_sA, gI_sM, gL_sI, gL_sL, gL_sA, gL_sM, aI_sI, aI_sL, aI_sA, aI_sM, aL_sI, aL_sL, aL_sA, aL_sM, Bstatement_0, Bstatement_14, Bstatement_37, Bstatement_47, Bstatement_51, Bstatement_52, Bstatement_53, Bstatement_63, Bstatement_75, Bstatement_108, Bstatement_115, Bstatement_126, Bstatement_130, Bstatement_131, Bstatement_132, Bstatement_142, Bstatement_147, Bstatement_220, Bstatement_225, Bstatement_230, Bstatement_235, Bstatement_240, Bstatement_245, Bstatement_250, Bstatement_255, Bstatement_260, oi_0, oi_1, oi_123, oi_20, oi_4, oi_41, oi_58, oi_7]; try dsimp only
            have hcw : codY z.1 = 61 := (SR.sh hR).wd (x := 11) (by decide) |>.mp ⟨by lia, Int32.toInt_inj.mp h44⟩
            refine ⟨trivial, fun w46 τ46 hq46 => ?_⟩
            obtain ⟨hq46, hL46⟩ := hq46
            have hq46 : StZ N τ46 _ w46 := hq46 N z n F ⟨(by repeat (first | exact hR | refine SR.i ?_ rfl | refine SR.a ?_ rfl)), (by repeat (first | exact hg | refine FgR.i ?_ rfl | refine FgR.a ?_ rfl)), (by (try simp only [frR_i, frR_a, ne_eq, Nat.reduceEqDiff, not_false_eq_true]); exact hne), (by repeat (first | exact hZ | refine BZ.i ?_ rfl | refine BZ.a ?_ rfl)), (by repeat (first | exact hK | refine KtR.i ?_ | refine KtR.a ?_ (by decide))), hw, hu, ha1, (by omega)⟩
            have hv46 : w46 = some (.int 0) ∨ w46 = some (.int 1) := hq46.imp (fun q => q.1) (fun q => q.1)
            rcases hv46 with rfl | rfl
            · dsimp only [Option.toList, List.cons_append, List.nil_append, Nat.beq, gI_sI, gI_sL, gI_sA, gI_sM, gL_sI, gL_sL, gL_sA, gL_sM, aI_sI, aI_sL, aI_sA, aI_sM, aL_sI, aL_sL, aL_sA, aL_sM]
              unfold Qv_statementZ
              try dsimp only
              exact hq46
            · dsimp only [Option.toList, List.cons_append, List.nil_append, Nat.beq, gI_sI, gI_sL, gI_sA, gI_sM, gL_sI, gL_sL, gL_sA, gL_sM, aI_sI, aI_sL, aI_sA, aI_sM, aL_sI, aL_sL, aL_sA, aL_sM]
              unfold Qv_statementZ
              try dsimp only
              exact hq46
          refine ⟨fun h47 => ?_, fun h47 => ?_⟩
          · refine hB _ _ _ _ _ (fun m48 hm48 => ?_)
            dsimp only [ugo, uwp, ust, uct, rfd, Bstatement, Nat.beq, lv_args, rlk, rs1, rs2, rdl, rky, rcd, rno, rsw, Value.category, List.filter, List.take, List.drop, List.reverse, List.reverseAux, List.cons_append, List.nil_append, Option.toList, Int.toNat, Int.reduceToNat, if_pos, if_neg, reduceIte, ↓reduceIte, Nat.reduceAdd, Nat.reduceEqDiff, Nat.reduceBEq, beq_self_eq_true, Bool.not_true, Bool.not_false, Bool.and_true, Bool.and_false, Bool.true_and, Bool.false_and, gI_sI, gI_sL, gI_sA, gI_sM, gL_sI, gL_sL, gL_sA, gL_sM, aI_sI, aI_sL, aI_sA, aI_sM, aL_sI, aL_sL, aL_sA, aL_sM, Bstatement_0, Bstatement_14, Bstatement_37, Bstatement_47, Bstatement_51, Bstatement_52, Bstatement_53, Bstatement_63, Bstatement_75, Bstatement_108, Bstatement_115, Bstatement_126, Bstatement_130, Bstatement_131, Bstatement_132, Bstatement_142, Bstatement_147, Bstatement_220, Bstatement_225, Bstatement_230, Bstatement_235, Bstatement_240, Bstatement_245, Bstatement_250, Bstatement_255, Bstatement_260, oi_0, oi_1, oi_123, oi_20, oi_4, oi_41, oi_58, oi_7]; try dsimp only
            have h6n : ¬ (codY z.1 = 80 ∧ cobY z.1 = 6) := fun q => h23 ((SR.sh hR).ki.2.2.1.mpr q.1)
            have hcw : codY z.1 = 62 := (SR.sh hR).wd (x := 12) (by decide) |>.mp ⟨by lia, Int32.toInt_inj.mp h47⟩
            refine ⟨trivial, fun w49 τ49 hq49 => ?_⟩
            obtain ⟨hq49, hL49⟩ := hq49
            have hq49 : StZ N τ49 _ w49 := hq49 N z n F ⟨(by repeat (first | exact hR | refine SR.i ?_ rfl | refine SR.a ?_ rfl)), (by repeat (first | exact hg | refine FgR.i ?_ rfl | refine FgR.a ?_ rfl)), (by (try simp only [frR_i, frR_a, ne_eq, Nat.reduceEqDiff, not_false_eq_true]); exact hne), (by repeat (first | exact hZ | refine BZ.i ?_ rfl | refine BZ.a ?_ rfl)), (by repeat (first | exact hK | refine KtR.i ?_ | refine KtR.a ?_ (by decide))), hw, hu, ha1, (by refine ⟨?_, ?_, ?_, ?_, ?_, ?_, ?_, ?_, ?_, ?_, ?_, h6n⟩ <;> omega)⟩
            have hv49 : w49 = some (.int 0) ∨ w49 = some (.int 1) := hq49.imp (fun q => q.1) (fun q => q.1)
            rcases hv49 with rfl | rfl
            · dsimp only [Option.toList, List.cons_append, List.nil_append, Nat.beq, gI_sI, gI_sL, gI_sA, gI_sM, gL_sI, gL_sL, gL_sA, gL_sM, aI_sI, aI_sL, aI_sA, aI_sM, aL_sI, aL_sL, aL_sA, aL_sM]
              unfold Qv_statementZ
              try dsimp only
              exact hq49
            · dsimp only [Option.toList, List.cons_append, List.nil_append, Nat.beq, gI_sI, gI_sL, gI_sA, gI_sM, gL_sI, gL_sL, gL_sA, gL_sM, aI_sI, aI_sL, aI_sA, aI_sM, aL_sI, aL_sL, aL_sA, aL_sM]
              unfold Qv_statementZ
              try dsimp only
              exact hq49
          refine ⟨fun h50 => ?_, fun h50 => ?_⟩
          · refine hB _ _ _ _ _ (fun m51 hm51 => ?_)
            dsimp only [ugo, uwp, ust, uct, rfd, Bstatement, Nat.beq, lv_args, rlk, rs1, rs2, rdl, rky, rcd, rno, rsw, Value.category, List.filter, List.take, List.drop, List.reverse, List.reverseAux, List.cons_append, List.nil_append, Option.toList, Int.toNat, Int.reduceToNat, if_pos, if_neg, reduceIte, ↓reduceIte, Nat.reduceAdd, Nat.reduceEqDiff, Nat.reduceBEq, beq_self_eq_true, Bool.not_true, Bool.not_false, Bool.and_true, Bool.and_false, Bool.true_and, Bool.false_and, gI_sI, gI_sL, gI_sA, gI_sM, gL_sI, gL_sL, gL_sA, gL_sM, aI_sI, aI_sL, aI_sA, aI_sM, aL_sI, aL_sL, aL_sA, aL_sM, Bstatement_0, Bstatement_14, Bstatement_37, Bstatement_47, Bstatement_51, Bstatement_52, Bstatement_53, Bstatement_63, Bstatement_75, Bstatement_108, Bstatement_115, Bstatement_126, Bstatement_130, Bstatement_131, Bstatement_132, Bstatement_142, Bstatement_147, Bstatement_220, Bstatement_225, Bstatement_230, Bstatement_235, Bstatement_240, Bstatement_245, Bstatement_250, Bstatement_255, Bstatement_260, oi_0, oi_1, oi_123, oi_20, oi_4, oi_41, oi_58, oi_7]; try dsimp only
            have h6n : ¬ (codY z.1 = 80 ∧ cobY z.1 = 6) := fun q => h23 ((SR.sh hR).ki.2.2.1.mpr q.1)
            have hcw : codY z.1 = 63 := (SR.sh hR).wd (x := 13) (by decide) |>.mp ⟨by lia, Int32.toInt_inj.mp h50⟩
            refine ⟨trivial, fun w52 τ52 hq52 => ?_⟩
            obtain ⟨hq52, hL52⟩ := hq52
            have hq52 : StZ N τ52 _ w52 := hq52 N z n F ⟨(by repeat (first | exact hR | refine SR.i ?_ rfl | refine SR.a ?_ rfl)), (by repeat (first | exact hg | refine FgR.i ?_ rfl | refine FgR.a ?_ rfl)), (by (try simp only [frR_i, frR_a, ne_eq, Nat.reduceEqDiff, not_false_eq_true]); exact hne), (by repeat (first | exact hZ | refine BZ.i ?_ rfl | refine BZ.a ?_ rfl)), (by repeat (first | exact hK | refine KtR.i ?_ | refine KtR.a ?_ (by decide))), hw, hu, ha1, (by refine ⟨?_, ?_, ?_, ?_, ?_, ?_, ?_, ?_, ?_, ?_, ?_, h6n⟩ <;> omega)⟩
            have hv52 : w52 = some (.int 0) ∨ w52 = some (.int 1) := hq52.imp (fun q => q.1) (fun q => q.1)
            rcases hv52 with rfl | rfl
            · dsimp only [Option.toList, List.cons_append, List.nil_append, Nat.beq, gI_sI, gI_sL, gI_sA, gI_sM, gL_sI, gL_sL, gL_sA, gL_sM, aI_sI, aI_sL, aI_sA, aI_sM, aL_sI, aL_sL, aL_sA, aL_sM]
              unfold Qv_statementZ
              try dsimp only
              exact hq52
            · dsimp only [Option.toList, List.cons_append, List.nil_append, Nat.beq, gI_sI, gI_sL, gI_sA, gI_sM, gL_sI, gL_sL, gL_sA, gL_sM, aI_sI, aI_sL, aI_sA, aI_sM, aL_sI, aL_sL, aL_sA, aL_sM]
              unfold Qv_statementZ
              try dsimp only
              exact hq52
          refine ⟨fun h53 => ?_, fun h53 => ?_⟩
          · refine hB _ _ _ _ _ (fun m54 hm54 => ?_)
            dsimp only [ugo, uwp, ust, uct, rfd, Bstatement, Nat.beq, lv_args, rlk, rs1, rs2, rdl, rky, rcd, rno, rsw, Value.category, List.filter, List.take, List.drop, List.reverse, List.reverseAux, List.cons_append, List.nil_append, Option.toList, Int.toNat, Int.reduceToNat, if_pos, if_neg, reduceIte, ↓reduceIte, Nat.reduceAdd, Nat.reduceEqDiff, Nat.reduceBEq, beq_self_eq_true, Bool.not_true, Bool.not_false, Bool.and_true, Bool.and_false, Bool.true_and, Bool.false_and, gI_sI, gI_sL, gI_sA, gI_sM, gL_sI, gL_sL, gL_sA, gL_sM, aI_sI, aI_sL, aI_sA, aI_sM, aL_sI, aL_sL, aL_sA, aL_sM, Bstatement_0, Bstatement_14, Bstatement_37, Bstatement_47, Bstatement_51, Bstatement_52, Bstatement_53, Bstatement_63, Bstatement_75, Bstatement_108, Bstatement_115, Bstatement_126, Bstatement_130, Bstatement_131, Bstatement_132, Bstatement_142, Bstatement_147, Bstatement_220, Bstatement_225, Bstatement_230, Bstatement_235, Bstatement_240, Bstatement_245, Bstatement_250, Bstatement_255, Bstatement_260, oi_0, oi_1, oi_123, oi_20, oi_4, oi_41, oi_58, oi_7]; try dsimp only
            have hcw : codY z.1 = 64 := (SR.sh hR).wd (x := 14) (by decide) |>.mp ⟨by lia, Int32.toInt_inj.mp h53⟩
            refine ⟨trivial, fun w55 τ55 hq55 => ?_⟩
            obtain ⟨hq55, hL55⟩ := hq55
            have hq55 : StZ N τ55 _ w55 := hq55 N z n F ⟨(by repeat (first | exact hR | refine SR.i ?_ rfl | refine SR.a ?_ rfl)), (by repeat (first | exact hg | refine FgR.i ?_ rfl | refine FgR.a ?_ rfl)), (by (try simp only [frR_i, frR_a, ne_eq, Nat.reduceEqDiff, not_false_eq_true]); exact hne), (by repeat (first | exact hZ | refine BZ.i ?_ rfl | refine BZ.a ?_ rfl)), (by repeat (first | exact hK | refine KtR.i ?_ | refine KtR.a ?_ (by decide))), hw, hu, ha1, (by omega)⟩
            have hv55 : w55 = some (.int 0) ∨ w55 = some (.int 1) := hq55.imp (fun q => q.1) (fun q => q.1)
            rcases hv55 with rfl | rfl
            · dsimp only [Option.toList, List.cons_append, List.nil_append, Nat.beq, gI_sI, gI_sL, gI_sA, gI_sM, gL_sI, gL_sL, gL_sA, gL_sM, aI_sI, aI_sL, aI_sA, aI_sM, aL_sI, aL_sL, aL_sA, aL_sM]
              unfold Qv_statementZ
              try dsimp only
              exact hq55
            · dsimp only [Option.toList, List.cons_append, List.nil_append, Nat.beq, gI_sI, gI_sL, gI_sA, gI_sM, gL_sI, gL_sL, gL_sA, gL_sM, aI_sI, aI_sL, aI_sA, aI_sM, aL_sI, aL_sL, aL_sA, aL_sM]
              unfold Qv_statementZ
              try dsimp only
              exact hq55
          refine ⟨fun h56 => ?_, fun h56 => ?_⟩
          · refine hB _ _ _ _ _ (fun m57 hm57 => ?_)
            dsimp only [ugo, uwp, ust, uct, rfd, Bstatement, Nat.beq, lv_args, rlk, rs1, rs2, rdl, rky, rcd, rno, rsw, Value.category, List.filter, List.take, List.drop, List.reverse, List.reverseAux, List.cons_append, List.nil_append, Option.toList, Int.toNat, Int.reduceToNat, if_pos, if_neg, reduceIte, ↓reduceIte, Nat.reduceAdd, Nat.reduceEqDiff, Nat.reduceBEq, beq_self_eq_true, Bool.not_true, Bool.not_false, Bool.and_true, Bool.and_false, Bool.true_and, Bool.false_and, gI_sI, gI_sL, gI_sA, gI_sM, gL_sI, gL_sL, gL_sA, gL_sM, aI_sI, aI_sL, aI_sA, aI_sM, aL_sI, aL_sL, aL_sA, aL_sM, Bstatement_0, Bstatement_14, Bstatement_37, Bstatement_47, Bstatement_51, Bstatement_52, Bstatement_53, Bstatement_63, Bstatement_75, Bstatement_108, Bstatement_115, Bstatement_126, Bstatement_130, Bstatement_131, Bstatement_132, Bstatement_142, Bstatement_147, Bstatement_220, Bstatement_225, Bstatement_230, Bstatement_235, Bstatement_240, Bstatement_245, Bstatement_250, Bstatement_255, Bstatement_260, oi_0, oi_1, oi_123, oi_20, oi_4, oi_41, oi_58, oi_7]; try dsimp only
            have hcw : codY z.1 = 65 := (SR.sh hR).wd (x := 15) (by decide) |>.mp ⟨by lia, Int32.toInt_inj.mp h56⟩
            refine ⟨trivial, fun w58 τ58 hq58 => ?_⟩
            obtain ⟨hq58, hL58⟩ := hq58
            have hq58 : StZ N τ58 _ w58 := hq58 N z n F ⟨(by repeat (first | exact hR | refine SR.i ?_ rfl | refine SR.a ?_ rfl)), (by repeat (first | exact hg | refine FgR.i ?_ rfl | refine FgR.a ?_ rfl)), (by (try simp only [frR_i, frR_a, ne_eq, Nat.reduceEqDiff, not_false_eq_true]); exact hne), (by repeat (first | exact hZ | refine BZ.i ?_ rfl | refine BZ.a ?_ rfl)), (by repeat (first | exact hK | refine KtR.i ?_ | refine KtR.a ?_ (by decide))), hw, hu, ha1, (by omega)⟩
            have hv58 : w58 = some (.int 0) ∨ w58 = some (.int 1) := hq58.imp (fun q => q.1) (fun q => q.1)
            rcases hv58 with rfl | rfl
            · dsimp only [Option.toList, List.cons_append, List.nil_append, Nat.beq, gI_sI, gI_sL, gI_sA, gI_sM, gL_sI, gL_sL, gL_sA, gL_sM, aI_sI, aI_sL, aI_sA, aI_sM, aL_sI, aL_sL, aL_sA, aL_sM]
              unfold Qv_statementZ
              try dsimp only
              exact hq58
            · dsimp only [Option.toList, List.cons_append, List.nil_append, Nat.beq, gI_sI, gI_sL, gI_sA, gI_sM, gL_sI, gL_sL, gL_sA, gL_sM, aI_sI, aI_sL, aI_sA, aI_sM, aL_sI, aL_sL, aL_sA, aL_sM]
              unfold Qv_statementZ
              try dsimp only
              exact hq58
          refine ⟨fun h59 => ?_, fun h59 => ?_⟩
          · refine hB _ _ _ _ _ (fun m60 hm60 => ?_)
            dsimp only [ugo, uwp, ust, uct, rfd, Bstatement, Nat.beq, lv_args, rlk, rs1, rs2, rdl, rky, rcd, rno, rsw, Value.category, List.filter, List.take, List.drop, List.reverse, List.reverseAux, List.cons_append, List.nil_append, Option.toList, Int.toNat, Int.reduceToNat, if_pos, if_neg, reduceIte, ↓reduceIte, Nat.reduceAdd, Nat.reduceEqDiff, Nat.reduceBEq, beq_self_eq_true, Bool.not_true, Bool.not_false, Bool.and_true, Bool.and_false, Bool.true_and, Bool.false_and, gI_sI, gI_sL, gI_sA, gI_sM, gL_sI, gL_sL, gL_sA, gL_sM, aI_sI, aI_sL, aI_sA, aI_sM, aL_sI, aL_sL, aL_sA, aL_sM, Bstatement_0, Bstatement_14, Bstatement_37, Bstatement_47, Bstatement_51, Bstatement_52, Bstatement_53, Bstatement_63, Bstatement_75, Bstatement_108, Bstatement_115, Bstatement_126, Bstatement_130, Bstatement_131, Bstatement_132, Bstatement_142, Bstatement_147, Bstatement_220, Bstatement_225, Bstatement_230, Bstatement_235, Bstatement_240, Bstatement_245, Bstatement_250, Bstatement_255, Bstatement_260, oi_0, oi_1, oi_123, oi_20, oi_4, oi_41, oi_58, oi_7]; try dsimp only
            have hcw : codY z.1 = 66 := (SR.sh hR).wd (x := 16) (by decide) |>.mp ⟨by lia, Int32.toInt_inj.mp h59⟩
            refine ⟨trivial, fun w61 τ61 hq61 => ?_⟩
            obtain ⟨hq61, hL61⟩ := hq61
            have hq61 : StZ N τ61 _ w61 := hq61 N z n F ⟨(by repeat (first | exact hR | refine SR.i ?_ rfl | refine SR.a ?_ rfl)), (by repeat (first | exact hg | refine FgR.i ?_ rfl | refine FgR.a ?_ rfl)), (by (try simp only [frR_i, frR_a, ne_eq, Nat.reduceEqDiff, not_false_eq_true]); exact hne), (by repeat (first | exact hZ | refine BZ.i ?_ rfl | refine BZ.a ?_ rfl)), (by repeat (first | exact hK | refine KtR.i ?_ | refine KtR.a ?_ (by decide))), hw, hu, ha1, (by omega)⟩
            have hv61 : w61 = some (.int 0) ∨ w61 = some (.int 1) := hq61.imp (fun q => q.1) (fun q => q.1)
            rcases hv61 with rfl | rfl
            · dsimp only [Option.toList, List.cons_append, List.nil_append, Nat.beq, gI_sI, gI_sL, gI_sA, gI_sM, gL_sI, gL_sL, gL_sA, gL_sM, aI_sI, aI_sL, aI_sA, aI_sM, aL_sI, aL_sL, aL_sA, aL_sM]
              unfold Qv_statementZ
              try dsimp only
              exact hq61
            · dsimp only [Option.toList, List.cons_append, List.nil_append, Nat.beq, gI_sI, gI_sL, gI_sA, gI_sM, gL_sI, gL_sL, gL_sA, gL_sM, aI_sI, aI_sL, aI_sA, aI_sM, aL_sI, aL_sL, aL_sA, aL_sM]
              unfold Qv_statementZ
              try dsimp only
              exact hq61
          refine ⟨fun h62 => ?_, fun h62 => ?_⟩
          · refine hB _ _ _ _ _ (fun m63 hm63 => ?_)
            dsimp only [ugo, uwp, ust, uct, rfd, Bstatement, Nat.beq, lv_args, rlk, rs1, rs2, rdl, rky, rcd, rno, rsw, Value.category, List.filter, List.take, List.drop, List.reverse, List.reverseAux, List.cons_append, List.nil_append, Option.toList, Int.toNat, Int.reduceToNat, if_pos, if_neg, reduceIte, ↓reduceIte, Nat.reduceAdd, Nat.reduceEqDiff, Nat.reduceBEq, beq_self_eq_true, Bool.not_true, Bool.not_false, Bool.and_true, Bool.and_false, Bool.true_and, Bool.false_and, gI_sI, gI_sL, gI_sA, gI_sM, gL_sI, gL_sL, gL_sA, gL_sM, aI_sI, aI_sL, aI_sA, aI_sM, aL_sI, aL_sL, aL_sA, aL_sM, Bstatement_0, Bstatement_14, Bstatement_37, Bstatement_47, Bstatement_51, Bstatement_52, Bstatement_53, Bstatement_63, Bstatement_75, Bstatement_108, Bstatement_115, Bstatement_126, Bstatement_130, Bstatement_131, Bstatement_132, Bstatement_142, Bstatement_147, Bstatement_220, Bstatement_225, Bstatement_230, Bstatement_235, Bstatement_240, Bstatement_245, Bstatement_250, Bstatement_255, Bstatement_260, oi_0, oi_1, oi_123, oi_20, oi_4, oi_41, oi_58, oi_7]; try dsimp only
            have hcw : codY z.1 = 67 := (SR.sh hR).wd (x := 17) (by decide) |>.mp ⟨by lia, Int32.toInt_inj.mp h62⟩
            refine ⟨trivial, fun w64 τ64 hq64 => ?_⟩
            obtain ⟨hq64, hL64⟩ := hq64
            have hq64 : StZ N τ64 _ w64 := hq64 N z n F ⟨(by repeat (first | exact hR | refine SR.i ?_ rfl | refine SR.a ?_ rfl)), (by repeat (first | exact hg | refine FgR.i ?_ rfl | refine FgR.a ?_ rfl)), (by (try simp only [frR_i, frR_a, ne_eq, Nat.reduceEqDiff, not_false_eq_true]); exact hne), (by repeat (first | exact hZ | refine BZ.i ?_ rfl | refine BZ.a ?_ rfl)), (by repeat (first | exact hK | refine KtR.i ?_ | refine KtR.a ?_ (by decide))), hw, hu, ha1, (by omega)⟩
            have hv64 : w64 = some (.int 0) ∨ w64 = some (.int 1) := hq64.imp (fun q => q.1) (fun q => q.1)
            rcases hv64 with rfl | rfl
            · dsimp only [Option.toList, List.cons_append, List.nil_append, Nat.beq, gI_sI, gI_sL, gI_sA, gI_sM, gL_sI, gL_sL, gL_sA, gL_sM, aI_sI, aI_sL, aI_sA, aI_sM, aL_sI, aL_sL, aL_sA, aL_sM]
              unfold Qv_statementZ
              try dsimp only
              exact hq64
            · dsimp only [Option.toList, List.cons_append, List.nil_append, Nat.beq, gI_sI, gI_sL, gI_sA, gI_sM, gL_sI, gL_sL, gL_sA, gL_sM, aI_sI, aI_sL, aI_sA, aI_sM, aL_sI, aL_sL, aL_sA, aL_sM]
              unfold Qv_statementZ
              try dsimp only
              exact hq64
          refine ⟨fun h65 => ?_, fun h65 => ?_⟩
          · refine hB _ _ _ _ _ (fun m66 hm66 => ?_)
            dsimp only [ugo, uwp, ust, uct, rfd, Bstatement, Nat.beq, lv_args, rlk, rs1, rs2, rdl, rky, rcd, rno, rsw, Value.category, List.filter, List.take, List.drop, List.reverse, List.reverseAux, List.cons_append, List.nil_append, Option.toList, Int.toNat, Int.reduceToNat, if_pos, if_neg, reduceIte, ↓reduceIte, Nat.reduceAdd, Nat.reduceEqDiff, Nat.reduceBEq, beq_self_eq_true, Bool.not_true, Bool.not_false, Bool.and_true, Bool.and_false, Bool.true_and, Bool.false_and, gI_sI, gI_sL, gI_sA, gI_sM, gL_sI, gL_sL, gL_sA, gL_sM, aI_sI, aI_sL, aI_sA, aI_sM, aL_sI, aL_sL, aL_sA, aL_sM, Bstatement_0, Bstatement_14, Bstatement_37, Bstatement_47, Bstatement_51, Bstatement_52, Bstatement_53, Bstatement_63, Bstatement_75, Bstatement_108, Bstatement_115, Bstatement_126, Bstatement_130, Bstatement_131, Bstatement_132, Bstatement_142, Bstatement_147, Bstatement_220, Bstatement_225, Bstatement_230, Bstatement_235, Bstatement_240, Bstatement_245, Bstatement_250, Bstatement_255, Bstatement_260, oi_0, oi_1, oi_123, oi_20, oi_4, oi_41, oi_58, oi_7]; try dsimp only
            have hcw : codY z.1 = 68 := (SR.sh hR).wd (x := 18) (by decide) |>.mp ⟨by lia, Int32.toInt_inj.mp h65⟩
            refine ⟨trivial, fun w67 τ67 hq67 => ?_⟩
            obtain ⟨hq67, hL67⟩ := hq67
            have hq67 : StZ N τ67 _ w67 := hq67 N z n F ⟨(by repeat (first | exact hR | refine SR.i ?_ rfl | refine SR.a ?_ rfl)), (by repeat (first | exact hg | refine FgR.i ?_ rfl | refine FgR.a ?_ rfl)), (by (try simp only [frR_i, frR_a, ne_eq, Nat.reduceEqDiff, not_false_eq_true]); exact hne), (by repeat (first | exact hZ | refine BZ.i ?_ rfl | refine BZ.a ?_ rfl)), (by repeat (first | exact hK | refine KtR.i ?_ | refine KtR.a ?_ (by decide))), hw, hu, ha1, (by omega)⟩
            have hv67 : w67 = some (.int 0) ∨ w67 = some (.int 1) := hq67.imp (fun q => q.1) (fun q => q.1)
            rcases hv67 with rfl | rfl
            · dsimp only [Option.toList, List.cons_append, List.nil_append, Nat.beq, gI_sI, gI_sL, gI_sA, gI_sM, gL_sI, gL_sL, gL_sA, gL_sM, aI_sI, aI_sL, aI_sA, aI_sM, aL_sI, aL_sL, aL_sA, aL_sM]
              unfold Qv_statementZ
              try dsimp only
              exact hq67
            · dsimp only [Option.toList, List.cons_append, List.nil_append, Nat.beq, gI_sI, gI_sL, gI_sA, gI_sM, gL_sI, gL_sL, gL_sA, gL_sM, aI_sI, aI_sL, aI_sA, aI_sM, aL_sI, aL_sL, aL_sA, aL_sM]
              unfold Qv_statementZ
              try dsimp only
              exact hq67
          refine hB _ _ _ _ _ (fun m68 hm68 => ?_)
          dsimp only [ugo, uwp, ust, uct, rfd, Bstatement, Nat.beq, lv_args, rlk, rs1, rs2, rdl, rky, rcd, rno, rsw, Value.category, List.filter, List.take, List.drop, List.reverse, List.reverseAux, List.cons_append, List.nil_append, Option.toList, Int.toNat, Int.reduceToNat, if_pos, if_neg, reduceIte, ↓reduceIte, Nat.reduceAdd, Nat.reduceEqDiff, Nat.reduceBEq, beq_self_eq_true, Bool.not_true, Bool.not_false, Bool.and_true, Bool.and_false, Bool.true_and, Bool.false_and, gI_sI, gI_sL, gI_sA, gI_sM, gL_sI, gL_sL, gL_sA, gL_sM, aI_sI, aI_sL, aI_sA, aI_sM, aL_sI, aL_sL, aL_sA, aL_sM, Bstatement_0, Bstatement_14, Bstatement_37, Bstatement_47, Bstatement_51, Bstatement_52, Bstatement_53, Bstatement_63, Bstatement_75, Bstatement_108, Bstatement_115, Bstatement_126, Bstatement_130, Bstatement_131, Bstatement_132, Bstatement_142, Bstatement_147, Bstatement_220, Bstatement_225, Bstatement_230, Bstatement_235, Bstatement_240, Bstatement_245, Bstatement_250, Bstatement_255, Bstatement_260, oi_0, oi_1, oi_123, oi_20, oi_4, oi_41, oi_58, oi_7]; try dsimp only
          have h6n : ¬ (codY z.1 = 80 ∧ cobY z.1 = 6) := fun q => h23 ((SR.sh hR).ki.2.2.1.mpr q.1)
          have hw6_ : ¬ codY z.1 = 56 := fun q => absurd (congrArg Int32.toInt ((SR.sh hR).wd (x := 6) (by decide) |>.mpr q).2) h29
          have hw7_ : ¬ codY z.1 = 57 := fun q => absurd (congrArg Int32.toInt ((SR.sh hR).wd (x := 7) (by decide) |>.mpr q).2) h32
          have hw8_ : ¬ codY z.1 = 58 := fun q => absurd (congrArg Int32.toInt ((SR.sh hR).wd (x := 8) (by decide) |>.mpr q).2) h35
          have hw9_ : ¬ codY z.1 = 60 := fun q => absurd (congrArg Int32.toInt ((SR.sh hR).wd (x := 9) (by decide) |>.mpr q).2) h38
          have hw10_ : ¬ codY z.1 = 59 := fun q => absurd (congrArg Int32.toInt ((SR.sh hR).wd (x := 10) (by decide) |>.mpr q).2) h41
          have hw11_ : ¬ codY z.1 = 61 := fun q => absurd (congrArg Int32.toInt ((SR.sh hR).wd (x := 11) (by decide) |>.mpr q).2) h44
          have hw12_ : ¬ codY z.1 = 62 := fun q => absurd (congrArg Int32.toInt ((SR.sh hR).wd (x := 12) (by decide) |>.mpr q).2) h47
          have hw13_ : ¬ codY z.1 = 63 := fun q => absurd (congrArg Int32.toInt ((SR.sh hR).wd (x := 13) (by decide) |>.mpr q).2) h50
          have hw14_ : ¬ codY z.1 = 64 := fun q => absurd (congrArg Int32.toInt ((SR.sh hR).wd (x := 14) (by decide) |>.mpr q).2) h53
          have hw15_ : ¬ codY z.1 = 65 := fun q => absurd (congrArg Int32.toInt ((SR.sh hR).wd (x := 15) (by decide) |>.mpr q).2) h56
          have hw16_ : ¬ codY z.1 = 66 := fun q => absurd (congrArg Int32.toInt ((SR.sh hR).wd (x := 16) (by decide) |>.mpr q).2) h59
          have hw17_ : ¬ codY z.1 = 67 := fun q => absurd (congrArg Int32.toInt ((SR.sh hR).wd (x := 17) (by decide) |>.mpr q).2) h62
          have hw18_ : ¬ codY z.1 = 68 := fun q => absurd (congrArg Int32.toInt ((SR.sh hR).wd (x := 18) (by decide) |>.mpr q).2) h65
          have hw4 : 50 ≤ codY z.1 := by have := (SR.sh hR).ki.2.2.2.2.2.1.mp (by lia); omega
          refine ⟨trivial, fun w69 τ69 hq69 => ?_⟩
          obtain ⟨hq69, hL69⟩ := hq69
          have hq69 : StZ N τ69 _ w69 := hq69 N z n F ⟨(by repeat (first | exact hR | refine SR.i ?_ rfl | refine SR.a ?_ rfl)), (by repeat (first | exact hg | refine FgR.i ?_ rfl | refine FgR.a ?_ rfl)), (by (try simp only [frR_i, frR_a, ne_eq, Nat.reduceEqDiff, not_false_eq_true]); exact hne), (by repeat (first | exact hZ | refine BZ.i ?_ rfl | refine BZ.a ?_ rfl)), (by repeat (first | exact hK | refine KtR.i ?_ | refine KtR.a ?_ (by decide))), hw, hu, ha1, (by refine ⟨?_, ?_, ?_, ?_, ?_, ?_, ?_, ?_, ?_, ?_, ?_, h6n⟩ <;> omega)⟩
          have hv69 : w69 = some (.int 0) ∨ w69 = some (.int 1) := hq69.imp (fun q => q.1) (fun q => q.1)
          rcases hv69 with rfl | rfl
          · dsimp only [Option.toList, List.cons_append, List.nil_append, Nat.beq, gI_sI, gI_sL, gI_sA, gI_sM, gL_sI, gL_sL, gL_sA, gL_sM, aI_sI, aI_sL, aI_sA, aI_sM, aL_sI, aL_sL, aL_sA, aL_sM]
            unfold Qv_statementZ
            try dsimp only
            exact hq69
          · dsimp only [Option.toList, List.cons_append, List.nil_append, Nat.beq, gI_sI, gI_sL, gI_sA, gI_sM, gL_sI, gL_sL, gL_sA, gL_sM, aI_sI, aI_sL, aI_sA, aI_sM, aL_sI, aL_sL, aL_sA, aL_sM]
            unfold Qv_statementZ
            try dsimp only
            exact hq69
        · refine hB _ _ _ _ _ (fun m70 hm70 => ?_)
          dsimp only [ugo, uwp, ust, uct, rfd, Bstatement, Nat.beq, lv_args, rlk, rs1, rs2, rdl, rky, rcd, rno, rsw, Value.category, List.filter, List.take, List.drop, List.reverse, List.reverseAux, List.cons_append, List.nil_append, Option.toList, Int.toNat, Int.reduceToNat, if_pos, if_neg, reduceIte, ↓reduceIte, Nat.reduceAdd, Nat.reduceEqDiff, Nat.reduceBEq, beq_self_eq_true, Bool.not_true, Bool.not_false, Bool.and_true, Bool.and_false, Bool.true_and, Bool.false_and, gI_sI, gI_sL, gI_sA, gI_sM, gL_sI, gL_sL, gL_sA, gL_sM, aI_sI, aI_sL, aI_sA, aI_sM, aL_sI, aL_sL, aL_sA, aL_sM, Bstatement_0, Bstatement_14, Bstatement_37, Bstatement_47, Bstatement_51, Bstatement_52, Bstatement_53, Bstatement_63, Bstatement_75, Bstatement_108, Bstatement_115, Bstatement_126, Bstatement_130, Bstatement_131, Bstatement_132, Bstatement_142, Bstatement_147, Bstatement_220, Bstatement_225, Bstatement_230, Bstatement_235, Bstatement_240, Bstatement_245, Bstatement_250, Bstatement_255, Bstatement_260, oi_0, oi_1, oi_123, oi_20, oi_4, oi_41, oi_58, oi_7]; try dsimp only
          have h6n : ¬ (codY z.1 = 80 ∧ cobY z.1 = 6) := fun q => h23 ((SR.sh hR).ki.2.2.1.mpr q.1)
          have hw4 : ¬ (50 ≤ codY z.1 ∧ codY z.1 ≤ 73) := fun q => h26 ((SR.sh hR).ki.2.2.2.2.2.1.mpr q)
          refine ⟨trivial, fun w71 τ71 hq71 => ?_⟩
          obtain ⟨hq71, hL71⟩ := hq71
          have hq71 : StZ N τ71 _ w71 := hq71 N z n F ⟨(by repeat (first | exact hR | refine SR.i ?_ rfl | refine SR.a ?_ rfl)), (by repeat (first | exact hg | refine FgR.i ?_ rfl | refine FgR.a ?_ rfl)), (by (try simp only [frR_i, frR_a, ne_eq, Nat.reduceEqDiff, not_false_eq_true]); exact hne), (by repeat (first | exact hZ | refine BZ.i ?_ rfl | refine BZ.a ?_ rfl)), (by repeat (first | exact hK | refine KtR.i ?_ | refine KtR.a ?_ (by decide))), hw, hu, ha1, (by refine ⟨?_, ?_, ?_, ?_, ?_, ?_, ?_, ?_, ?_, ?_, ?_, h6n⟩ <;> omega)⟩
          have hv71 : w71 = some (.int 0) ∨ w71 = some (.int 1) := hq71.imp (fun q => q.1) (fun q => q.1)
          rcases hv71 with rfl | rfl
          · dsimp only [Option.toList, List.cons_append, List.nil_append, Nat.beq, gI_sI, gI_sL, gI_sA, gI_sM, gL_sI, gL_sL, gL_sA, gL_sM, aI_sI, aI_sL, aI_sA, aI_sM, aL_sI, aL_sL, aL_sA, aL_sM]
            unfold Qv_statementZ
            try dsimp only
            exact hq71
          · dsimp only [Option.toList, List.cons_append, List.nil_append, Nat.beq, gI_sI, gI_sL, gI_sA, gI_sM, gL_sI, gL_sL, gL_sA, gL_sM, aI_sI, aI_sL, aI_sA, aI_sM, aL_sI, aL_sL, aL_sA, aL_sM]
            unfold Qv_statementZ
            try dsimp only
            exact hq71
      · refine hB _ _ _ _ _ (fun m72 hm72 => ?_)
        dsimp only [ugo, uwp, ust, uct, rfd, Bstatement, Nat.beq, lv_args, rlk, rs1, rs2, rdl, rky, rcd, rno, rsw, Value.category, List.filter, List.take, List.drop, List.reverse, List.reverseAux, List.cons_append, List.nil_append, Option.toList, Int.toNat, Int.reduceToNat, if_pos, if_neg, reduceIte, ↓reduceIte, Nat.reduceAdd, Nat.reduceEqDiff, Nat.reduceBEq, beq_self_eq_true, Bool.not_true, Bool.not_false, Bool.and_true, Bool.and_false, Bool.true_and, Bool.false_and, gI_sI, gI_sL, gI_sA, gI_sM, gL_sI, gL_sL, gL_sA, gL_sM, aI_sI, aI_sL, aI_sA, aI_sM, aL_sI, aL_sL, aL_sA, aL_sM, Bstatement_0, Bstatement_14, Bstatement_37, Bstatement_47, Bstatement_51, Bstatement_52, Bstatement_53, Bstatement_63, Bstatement_75, Bstatement_108, Bstatement_115, Bstatement_126, Bstatement_130, Bstatement_131, Bstatement_132, Bstatement_142, Bstatement_147, Bstatement_220, Bstatement_225, Bstatement_230, Bstatement_235, Bstatement_240, Bstatement_245, Bstatement_250, Bstatement_255, Bstatement_260, oi_0, oi_1, oi_123, oi_20, oi_4, oi_41, oi_58, oi_7]; try dsimp only
        have hc8 : codY z.1 = 80 := (SR.sh hR).ki.2.2.1.mp (by exact h23)
        refine ⟨trivial, fun w73 τ73 hq73 => ?_⟩
        obtain ⟨hq73, hL73⟩ := hq73
        obtain ⟨rfl, hb73⟩ := hq73 trivial
        rcases hb73 with ⟨rfl, hk73⟩ | ⟨rfl, hk73⟩
        · dsimp only [Option.toList, List.cons_append, List.nil_append, Nat.beq, gI_sI, gI_sL, gI_sA, gI_sM, gL_sI, gL_sL, gL_sA, gL_sM, aI_sI, aI_sL, aI_sA, aI_sM, aL_sI, aL_sL, aL_sA, aL_sM]
          refine ⟨fun h74 => absurd h74 (by decide), fun h74 => ?_⟩
          clear h74
          refine hB _ _ _ _ _ (fun m75 hm75 => ?_)
          dsimp only [ugo, uwp, ust, uct, rfd, Bstatement, Nat.beq, lv_args, rlk, rs1, rs2, rdl, rky, rcd, rno, rsw, Value.category, List.filter, List.take, List.drop, List.reverse, List.reverseAux, List.cons_append, List.nil_append, Option.toList, Int.toNat, Int.reduceToNat, if_pos, if_neg, reduceIte, ↓reduceIte, Nat.reduceAdd, Nat.reduceEqDiff, Nat.reduceBEq, beq_self_eq_true, Bool.not_true, Bool.not_false, Bool.and_true, Bool.and_false, Bool.true_and, Bool.false_and, gI_sI, gI_sL, gI_sA, gI_sM, gL_sI, gL_sL, gL_sA, gL_sM, aI_sI, aI_sL, aI_sA, aI_sM, aL_sI, aL_sL, aL_sA, aL_sM, Bstatement_0, Bstatement_14, Bstatement_37, Bstatement_47, Bstatement_51, Bstatement_52, Bstatement_53, Bstatement_63, Bstatement_75, Bstatement_108, Bstatement_115, Bstatement_126, Bstatement_130, Bstatement_131, Bstatement_132, Bstatement_142, Bstatement_147, Bstatement_220, Bstatement_225, Bstatement_230, Bstatement_235, Bstatement_240, Bstatement_245, Bstatement_250, Bstatement_255, Bstatement_260, oi_0, oi_1, oi_123, oi_20, oi_4, oi_41, oi_58, oi_7]; try dsimp only
          refine ⟨trivial, fun w76 τ76 hq76 => ?_⟩
          obtain ⟨hq76, hL76⟩ := hq76
          obtain ⟨rfl, hEz76⟩ := hq76 trivial
          have hE76 := hEz76.1
          have hR76 := SR.em (e_ := 0) (s := z.1) (n := n) (by repeat (first | exact hR | refine SR.i ?_ rfl | refine SR.a ?_ rfl)) hE76
          have hf76 := frR_em hE76
          have hg76 := FgR.em (e_ := 0) (by repeat (first | exact hg | refine FgR.i ?_ rfl | refine FgR.a ?_ rfl)) (s := z.1) (n := n) (by repeat (first | exact hR | refine SR.i ?_ rfl | refine SR.a ?_ rfl)) hE76
          dsimp only [Option.toList, List.cons_append, List.nil_append, Nat.beq, gI_sI, gI_sL, gI_sA, gI_sM, gL_sI, gL_sL, gL_sA, gL_sM, aI_sI, aI_sL, aI_sA, aI_sM, aL_sI, aL_sL, aL_sA, aL_sM]
          have k6_76 : 0 < gI τ76 36 := by rw [hE76.1 36 (by decide)]; exact hm6
          have hstI : (gI σ 18).toInt = (cnM z : Int) := em18 (N := N) (F := F) (K := F) hEz76 (by repeat (first | exact hZ | refine BZ.i ?_ rfl | refine BZ.a ?_ rfl))
          have hZ76 : BZ N τ76 (coM 20 0 0 (zAt z.1) z) F F := BZ.co (x := ((20 : Int), (0 : Int), (0 : Int), ((zAt z.1) : Int), ((-1) : Int))) (by repeat (first | exact hZ | refine BZ.i ?_ rfl | refine BZ.a ?_ rfl)) hEz76 hL76 rfl (rfl) rfl (hC) (show ¬ (20 : Int) = 51 by decide)
          have hK76 : KtR τ76 (coM 20 0 0 (zAt z.1) z) := KtR.en (x := ((20 : Int), (0 : Int), (0 : Int), ((zAt z.1) : Int), ((-1) : Int))) (by repeat (first | exact hK | refine KtR.i ?_ | refine KtR.a ?_ (by decide))) (emK hEz76) (show thO 20 = false by decide)
          have hs76 : (coM 20 0 0 (zAt z.1) z).1 = z.1 := rfl
          refine ⟨trivial, fun w77 τ77 hq77 => ?_⟩
          obtain ⟨hq77, hL77⟩ := hq77
          obtain ⟨rfl, hTz77⟩ := hq77 trivial
          have hT77 := hTz77.1
          have hR77 := SR.th (e_ := 0) (s := z.1) (n := n) (by repeat (first | exact hR76 | refine SR.i ?_ rfl | refine SR.a ?_ rfl)) hT77
          have hg77 := FgR.th (e_ := 0) (by repeat (first | exact hg76 | refine FgR.i ?_ rfl | refine FgR.a ?_ rfl)) (s := z.1) (n := n) (by repeat (first | exact hR76 | refine SR.i ?_ rfl | refine SR.a ?_ rfl)) hT77
          have hf77 := frR_th hT77
          have hk77 := th49 hT77
          have k6_77 : 0 < gI τ77 36 := by rw [hT77.1 36 (by decide)]; exact k6_76
          have k9_77 : nT (gI τ76 49) < nT (gI τ77 49) := kthx hk77
          dsimp only [Option.toList, List.cons_append, List.nil_append, Nat.beq, gI_sI, gI_sL, gI_sA, gI_sM, gL_sI, gL_sL, gL_sA, gL_sM, aI_sI, aI_sL, aI_sA, aI_sM, aL_sI, aL_sL, aL_sA, aL_sM]
          have hkI := BZ.k49 hZ76
          have hkI : (gI τ76 49).toInt = (tnM z : Int) := hkI
          have hn49 : nT (gI τ76 49) = tnM z := hZ76.1.2.1.1
          have r60_77 : (aI τ77 60 (tnM z)).toInt = zAt z.1 := by rw [hTz77.2.2.1, hn49, upd_eq]; exact hC
          have hZ77 : BZ N τ77 (thM (seM (snM z) (sLk (zAt z.1)) (beM 6 (lvN n) (coM 20 0 0 (zAt z.1) z)))) F F := BZ.th (BZ.bl (k := 6) (lv := lvN n) (v := zAt z.1) hZ76) hTz77 hL77
          have hK77 : KtR τ77 (thM (seM (snM z) (sLk (zAt z.1)) (beM 6 (lvN n) (coM 20 0 0 (zAt z.1) z)))) := KtR.th (z := seM (snM z) (sLk (zAt z.1)) (beM 6 (lvN n) (coM 20 0 0 (zAt z.1) z))) (KtR.gh hK76 rfl rfl) hTz77 hZ76.1.2.1.1 hZ76.c18 (by have q1 := hE76.2.1; have q2 := hE76.2.2.2.2.2; lia)
          have hs77 : (thM (seM (snM z) (sLk (zAt z.1)) (beM 6 (lvN n) (coM 20 0 0 (zAt z.1) z)))).1 = z.1 := hs76
          have hPg77 : PgZ z (thM (seM (snM z) (sLk (zAt z.1)) (beM 6 (lvN n) (coM 20 0 0 (zAt z.1) z)))) (thM (seM (snM z) (sLk (zAt z.1)) (beM 6 (lvN n) (coM 20 0 0 (zAt z.1) z)))) := PgZ.rf rfl
          refine ⟨trivial, fun w78 τ78 hq78 => ?_⟩
          obtain ⟨hq78, hL78⟩ := hq78
          obtain ⟨rfl, hEz78⟩ := hq78 trivial
          have hE78 := hEz78.1
          have hR78 := SR.em (e_ := 0) (s := z.1) (n := n) (by repeat (first | exact hR77 | refine SR.i ?_ rfl | refine SR.a ?_ rfl)) hE78
          have hf78 := frR_em hE78
          have hg78 := FgR.em (e_ := 0) (by repeat (first | exact hg77 | refine FgR.i ?_ rfl | refine FgR.a ?_ rfl)) (s := z.1) (n := n) (by repeat (first | exact hR77 | refine SR.i ?_ rfl | refine SR.a ?_ rfl)) hE78
          dsimp only [Option.toList, List.cons_append, List.nil_append, Nat.beq, gI_sI, gI_sL, gI_sA, gI_sM, gL_sI, gL_sL, gL_sA, gL_sM, aI_sI, aI_sL, aI_sA, aI_sM, aL_sI, aL_sL, aL_sA, aL_sM]
          have k6_78 : 0 < gI τ78 36 := by rw [hE78.1 36 (by decide)]; exact k6_77
          have k9_78 : nT (gI τ76 49) < nT (gI τ78 49) := by rw [hE78.1 49 (by decide)]; exact k9_77
          have hZ78 : BZ N τ78 (coM 41 (tnM z : Int) 0 (zAt z.1) (thM (seM (snM z) (sLk (zAt z.1)) (beM 6 (lvN n) (coM 20 0 0 (zAt z.1) z))))) F F := BZ.co (x := ((41 : Int), ((tnM z : Int) : Int), (0 : Int), ((zAt z.1) : Int), ((-1) : Int))) (by repeat (first | exact hZ77 | refine BZ.i ?_ rfl | refine BZ.a ?_ rfl)) hEz78 hL78 rfl (hkI) rfl (hC) (show ¬ (41 : Int) = 51 by decide)
          have hK78 : KtR τ78 (coM 41 (tnM z : Int) 0 (zAt z.1) (thM (seM (snM z) (sLk (zAt z.1)) (beM 6 (lvN n) (coM 20 0 0 (zAt z.1) z))))) := KtR.em (x := ((41 : Int), ((tnM z : Int) : Int), (0 : Int), ((zAt z.1) : Int), ((-1) : Int))) (by repeat (first | exact hK77 | refine KtR.i ?_ | refine KtR.a ?_ (by decide))) (emK hEz78) (fun _ => TcR.t41 (k := tnM z) (by repeat (first | exact hK77 | refine KtR.i ?_ | refine KtR.a ?_ (by decide))) (Nat.lt_succ_self _) rfl r60_77 (show ¬ (41 : Int) = 50 ∧ ¬ (41 : Int) = 51 by decide)) (show ∀ a, a < 60 → sqZ a 41 = false by decide)
          have hs78 : (coM 41 (tnM z : Int) 0 (zAt z.1) (thM (seM (snM z) (sLk (zAt z.1)) (beM 6 (lvN n) (coM 20 0 0 (zAt z.1) z))))).1 = z.1 := hs77
          have hPg78 : PgZ z (thM (seM (snM z) (sLk (zAt z.1)) (beM 6 (lvN n) (coM 20 0 0 (zAt z.1) z)))) (coM 41 (tnM z : Int) 0 (zAt z.1) (thM (seM (snM z) (sLk (zAt z.1)) (beM 6 (lvN n) (coM 20 0 0 (zAt z.1) z))))) := PgZ.co hPg77
          have k4_78 : (coM 41 (tnM z : Int) 0 (zAt z.1) (thM (seM (snM z) (sLk (zAt z.1)) (beM 6 (lvN n) (coM 20 0 0 (zAt z.1) z))))).2.2.2 = (thM (seM (snM z) (sLk (zAt z.1)) (beM 6 (lvN n) (coM 20 0 0 (zAt z.1) z)))).2.2.2 := rfl
          have r60_78 : aI τ78 60 = _ := (hE78.2.2.2.2.1 60 (by omega)).trans rfl
          refine ⟨trivial, fun w79 τ79 hq79 => ?_⟩
          obtain ⟨hq79, hL79⟩ := hq79
          have hq79 := hq79 _ z.1 n ⟨(SR.x (e_ := 0) (by repeat (first | exact hR78 | refine SR.i ?_ rfl | refine SR.a ?_ rfl))), by omega, by omega⟩
          rcases hq79 with ⟨rfl, hF79⟩ | ⟨rfl, hX79, hz79, hS79⟩
          · dsimp only [Option.toList, List.cons_append, List.nil_append, Nat.beq, gI_sI, gI_sL, gI_sA, gI_sM, gL_sI, gL_sL, gL_sA, gL_sM, aI_sI, aI_sL, aI_sA, aI_sM, aL_sI, aL_sL, aL_sA, aL_sM]
            refine ⟨fun h80 => ?_, fun h80 => absurd h80 (by decide)⟩
            clear h80
            refine hB _ _ _ _ _ (fun m81 hm81 => ?_)
            dsimp only [ugo, uwp, ust, uct, rfd, Bstatement, Nat.beq, lv_args, rlk, rs1, rs2, rdl, rky, rcd, rno, rsw, Value.category, List.filter, List.take, List.drop, List.reverse, List.reverseAux, List.cons_append, List.nil_append, Option.toList, Int.toNat, Int.reduceToNat, if_pos, if_neg, reduceIte, ↓reduceIte, Nat.reduceAdd, Nat.reduceEqDiff, Nat.reduceBEq, beq_self_eq_true, Bool.not_true, Bool.not_false, Bool.and_true, Bool.and_false, Bool.true_and, Bool.false_and, gI_sI, gI_sL, gI_sA, gI_sM, gL_sI, gL_sL, gL_sA, gL_sM, aI_sI, aI_sL, aI_sA, aI_sM, aL_sI, aL_sL, aL_sA, aL_sM, Bstatement_0, Bstatement_14, Bstatement_37, Bstatement_47, Bstatement_51, Bstatement_52, Bstatement_53, Bstatement_63, Bstatement_75, Bstatement_108, Bstatement_115, Bstatement_126, Bstatement_130, Bstatement_131, Bstatement_132, Bstatement_142, Bstatement_147, Bstatement_220, Bstatement_225, Bstatement_230, Bstatement_235, Bstatement_240, Bstatement_245, Bstatement_250, Bstatement_255, Bstatement_260, oi_0, oi_1, oi_123, oi_20, oi_4, oi_41, oi_58, oi_7]; try dsimp only
            refine hB _ _ _ _ _ (fun m82 hm82 => ?_)
            dsimp only [ugo, uwp, ust, uct, rfd, Bstatement, Nat.beq, lv_args, rlk, rs1, rs2, rdl, rky, rcd, rno, rsw, Value.category, List.filter, List.take, List.drop, List.reverse, List.reverseAux, List.cons_append, List.nil_append, Option.toList, Int.toNat, Int.reduceToNat, if_pos, if_neg, reduceIte, ↓reduceIte, Nat.reduceAdd, Nat.reduceEqDiff, Nat.reduceBEq, beq_self_eq_true, Bool.not_true, Bool.not_false, Bool.and_true, Bool.and_false, Bool.true_and, Bool.false_and, gI_sI, gI_sL, gI_sA, gI_sM, gL_sI, gL_sL, gL_sA, gL_sM, aI_sI, aI_sL, aI_sA, aI_sM, aL_sI, aL_sL, aL_sA, aL_sM, Bstatement_0, Bstatement_14, Bstatement_37, Bstatement_47, Bstatement_51, Bstatement_52, Bstatement_53, Bstatement_63, Bstatement_75, Bstatement_108, Bstatement_115, Bstatement_126, Bstatement_130, Bstatement_131, Bstatement_132, Bstatement_142, Bstatement_147, Bstatement_220, Bstatement_225, Bstatement_230, Bstatement_235, Bstatement_240, Bstatement_245, Bstatement_250, Bstatement_255, Bstatement_260, oi_0, oi_1, oi_123, oi_20, oi_4, oi_41, oi_58, oi_7]; try dsimp only
            unfold Qv_statementZ
            try dsimp only
            refine StZ.o hPhi ?_
            refine StQ.f hF79 ?_
            exact (st_nf hnn.2.1 hc8 (SR.z hR) hF79.1).tr (gd_sf _ _ _)
          · dsimp only [Option.toList, List.cons_append, List.nil_append, Nat.beq, gI_sI, gI_sL, gI_sA, gI_sM, gL_sI, gL_sL, gL_sA, gL_sM, aI_sI, aI_sL, aI_sA, aI_sM, aL_sI, aL_sL, aL_sA, aL_sM]
            have hR79 := SR.kr (e_ := 0) (by repeat (first | exact hR78 | refine SR.i ?_ rfl | refine SR.a ?_ rfl)) hX79 acc2
            have hg79 := FgR.kr (e_ := 0) (s := z.1) (n := n) (by repeat (first | exact hg78 | refine FgR.i ?_ rfl | refine FgR.a ?_ rfl)) (by repeat (first | exact hR78 | refine SR.i ?_ rfl | refine SR.a ?_ rfl)) hX79
            have hf79 := frR_kr hX79
            have k6_79 : 0 < gI τ79 36 := by rw [hX79.2.2.1.1 36 rfl]; exact k6_78
            have k9_79 : nT (gI τ76 49) < nT (gI τ79 49) := by rw [hX79.2.2.1.1 49 rfl]; exact k9_78
            have hZ79 : BZ N τ79 (accM (coM 41 (tnM z : Int) 0 (zAt z.1) (thM (seM (snM z) (sLk (zAt z.1)) (beM 6 (lvN n) (coM 20 0 0 (zAt z.1) z)))))) F F := BZ.tk (by repeat (first | exact hZ78 | refine BZ.i ?_ rfl | refine BZ.a ?_ rfl)) hS79 hL79
            have hK79 : KtR τ79 (accM (coM 41 (tnM z : Int) 0 (zAt z.1) (thM (seM (snM z) (sLk (zAt z.1)) (beM 6 (lvN n) (coM 20 0 0 (zAt z.1) z)))))) := KtR.tk (by repeat (first | exact hK78 | refine KtR.i ?_ | refine KtR.a ?_ (by decide))) hS79
            have hs79 : (accM (coM 41 (tnM z : Int) 0 (zAt z.1) (thM (seM (snM z) (sLk (zAt z.1)) (beM 6 (lvN n) (coM 20 0 0 (zAt z.1) z)))))).1 = (accY z.1) := congrArg accY hs78
            have hPg79 : PgZ z (thM (seM (snM z) (sLk (zAt z.1)) (beM 6 (lvN n) (coM 20 0 0 (zAt z.1) z)))) (accM (coM 41 (tnM z : Int) 0 (zAt z.1) (thM (seM (snM z) (sLk (zAt z.1)) (beM 6 (lvN n) (coM 20 0 0 (zAt z.1) z)))))) := PgZ.e hPg78 rfl rfl
            have k4_79 : (accM (coM 41 (tnM z : Int) 0 (zAt z.1) (thM (seM (snM z) (sLk (zAt z.1)) (beM 6 (lvN n) (coM 20 0 0 (zAt z.1) z)))))).2.2.2 = (thM (seM (snM z) (sLk (zAt z.1)) (beM 6 (lvN n) (coM 20 0 0 (zAt z.1) z)))).2.2.2 := k4_78
            have r60_79 : aI τ79 60 = _ := (hS79.2 60).trans r60_78
            refine ⟨fun h83 => absurd h83 (by decide), fun h83 => ?_⟩
            clear h83
            refine hB _ _ _ _ _ (fun m84 hm84 => ?_)
            dsimp only [ugo, uwp, ust, uct, rfd, Bstatement, Nat.beq, lv_args, rlk, rs1, rs2, rdl, rky, rcd, rno, rsw, Value.category, List.filter, List.take, List.drop, List.reverse, List.reverseAux, List.cons_append, List.nil_append, Option.toList, Int.toNat, Int.reduceToNat, if_pos, if_neg, reduceIte, ↓reduceIte, Nat.reduceAdd, Nat.reduceEqDiff, Nat.reduceBEq, beq_self_eq_true, Bool.not_true, Bool.not_false, Bool.and_true, Bool.and_false, Bool.true_and, Bool.false_and, gI_sI, gI_sL, gI_sA, gI_sM, gL_sI, gL_sL, gL_sA, gL_sM, aI_sI, aI_sL, aI_sA, aI_sM, aL_sI, aL_sL, aL_sA, aL_sM, Bstatement_0, Bstatement_14, Bstatement_37, Bstatement_47, Bstatement_51, Bstatement_52, Bstatement_53, Bstatement_63, Bstatement_75, Bstatement_108, Bstatement_115, Bstatement_126, Bstatement_130, Bstatement_131, Bstatement_132, Bstatement_142, Bstatement_147, Bstatement_220, Bstatement_225, Bstatement_230, Bstatement_235, Bstatement_240, Bstatement_245, Bstatement_250, Bstatement_255, Bstatement_260, oi_0, oi_1, oi_123, oi_20, oi_4, oi_41, oi_58, oi_7]; try dsimp only
            have hz_ : zAt z.1 < 500 := hz79
            have hnx := (SR.sh (n := n) hR).nx hc8 hz_
            have hc6 : cobY z.1 = 6 := (tk_sg (a := 58) (d := 6) hnx.2 (by decide)).mp ⟨by rw [hk73.2.2.1]; rfl, by rw [hk73.2.2.2]; rfl⟩
            have hc6a : codY (accY z.1) = 6 := by rw [← cob_acc (SR.z hR) hz_]; exact hc6
            refine ⟨trivial, fun w85 τ85 hq85 => ?_⟩
            obtain ⟨hq85, hL85⟩ := hq85
            have hq85 := hq85 _ (accY z.1) n ⟨(SR.x (e_ := 0) (by repeat (first | exact hR79 | refine SR.i ?_ rfl | refine SR.a ?_ rfl))), by omega, by omega⟩
            rcases hq85 with ⟨rfl, hF85⟩ | ⟨rfl, hX85, hz85, hS85⟩
            · dsimp only [Option.toList, List.cons_append, List.nil_append, Nat.beq, gI_sI, gI_sL, gI_sA, gI_sM, gL_sI, gL_sL, gL_sA, gL_sM, aI_sI, aI_sL, aI_sA, aI_sM, aL_sI, aL_sL, aL_sA, aL_sM]
              refine ⟨fun h86 => ?_, fun h86 => absurd h86 (by decide)⟩
              clear h86
              refine hB _ _ _ _ _ (fun m87 hm87 => ?_)
              dsimp only [ugo, uwp, ust, uct, rfd, Bstatement, Nat.beq, lv_args, rlk, rs1, rs2, rdl, rky, rcd, rno, rsw, Value.category, List.filter, List.take, List.drop, List.reverse, List.reverseAux, List.cons_append, List.nil_append, Option.toList, Int.toNat, Int.reduceToNat, if_pos, if_neg, reduceIte, ↓reduceIte, Nat.reduceAdd, Nat.reduceEqDiff, Nat.reduceBEq, beq_self_eq_true, Bool.not_true, Bool.not_false, Bool.and_true, Bool.and_false, Bool.true_and, Bool.false_and, gI_sI, gI_sL, gI_sA, gI_sM, gL_sI, gL_sL, gL_sA, gL_sM, aI_sI, aI_sL, aI_sA, aI_sM, aL_sI, aL_sL, aL_sA, aL_sM, Bstatement_0, Bstatement_14, Bstatement_37, Bstatement_47, Bstatement_51, Bstatement_52, Bstatement_53, Bstatement_63, Bstatement_75, Bstatement_108, Bstatement_115, Bstatement_126, Bstatement_130, Bstatement_131, Bstatement_132, Bstatement_142, Bstatement_147, Bstatement_220, Bstatement_225, Bstatement_230, Bstatement_235, Bstatement_240, Bstatement_245, Bstatement_250, Bstatement_255, Bstatement_260, oi_0, oi_1, oi_123, oi_20, oi_4, oi_41, oi_58, oi_7]; try dsimp only
              refine hB _ _ _ _ _ (fun m88 hm88 => ?_)
              dsimp only [ugo, uwp, ust, uct, rfd, Bstatement, Nat.beq, lv_args, rlk, rs1, rs2, rdl, rky, rcd, rno, rsw, Value.category, List.filter, List.take, List.drop, List.reverse, List.reverseAux, List.cons_append, List.nil_append, Option.toList, Int.toNat, Int.reduceToNat, if_pos, if_neg, reduceIte, ↓reduceIte, Nat.reduceAdd, Nat.reduceEqDiff, Nat.reduceBEq, beq_self_eq_true, Bool.not_true, Bool.not_false, Bool.and_true, Bool.and_false, Bool.true_and, Bool.false_and, gI_sI, gI_sL, gI_sA, gI_sM, gL_sI, gL_sL, gL_sA, gL_sM, aI_sI, aI_sL, aI_sA, aI_sM, aL_sI, aL_sL, aL_sA, aL_sM, Bstatement_0, Bstatement_14, Bstatement_37, Bstatement_47, Bstatement_51, Bstatement_52, Bstatement_53, Bstatement_63, Bstatement_75, Bstatement_108, Bstatement_115, Bstatement_126, Bstatement_130, Bstatement_131, Bstatement_132, Bstatement_142, Bstatement_147, Bstatement_220, Bstatement_225, Bstatement_230, Bstatement_235, Bstatement_240, Bstatement_245, Bstatement_250, Bstatement_255, Bstatement_260, oi_0, oi_1, oi_123, oi_20, oi_4, oi_41, oi_58, oi_7]; try dsimp only
              unfold Qv_statementZ
              try dsimp only
              refine StZ.o hPhi ?_
              rw [st_lab' hnn.2.1 hc8 hc6, xp_y hc6a]
              refine StQ.f hF85 ?_
              exact (by repeat (first | with_reducible exact GpY.rf | with_reducible refine GpY.tr ?_ (gd_fo _) | with_reducible refine GpY.tr ?_ (gd_ef _) | with_reducible refine GpY.tr ?_ (gd_cf _) | with_reducible refine GpY.tr ?_ (gd_wt _) | with_reducible refine GpY.tr ?_ (gd_xp _) | with_reducible refine GpY.tr ?_ (gd_acc _) | with_reducible refine GpY.tr ?_ (gd_rai _) | with_reducible refine GpY.tr ?_ (gd_e _) | with_reducible refine GpY.tr ?_ (gd_o _) | with_reducible refine GpY.tr ?_ (gd_c _) | with_reducible refine GpY.tr ?_ (gd_op _) | with_reducible refine GpY.tr ?_ (gd_clp gd_e _ _) | with_reducible refine GpY.tr ?_ (gd_tl _) | with_reducible refine GpY.tr ?_ (gd_sf _ _ _) | with_reducible refine GpY.tr ?_ (gd_cl _) | with_reducible refine GpY.tr ?_ (gd_pc _) | with_reducible refine GpY.tr ?_ (gd_st _) | with_reducible refine GpY.tr ?_ (gd_rw _) | with_reducible refine GpY.tr ?_ (gd_typ _) | with_reducible refine GpY.tr ?_ (gd_dcl _) | with_reducible refine GpY.tr ?_ (gd_va2 _) | with_reducible refine GpY.tr ?_ (gd_cnd _) | with_reducible refine GpY.tr ?_ (gd_tr1 _) | with_reducible refine GpY.tr ?_ (gd_tr2 (fun _ => gd_rw) _) | with_reducible refine GpY.tr ?_ (gd_tr3 (fun _ => gd_rw) _) | with_reducible refine GpY.tr ?_ (gd_fo1 _) | with_reducible refine GpY.tr ?_ (gd_fo2 _) | with_reducible refine GpY.tr ?_ (gd_fo3 _) | with_reducible refine GpY.tr ?_ (gd_fex _) | with_reducible refine GpY.tr ?_ (pg_var.1) | with_reducible refine GpY.tr ?_ (pg_cas.1) | exact GpY.rf))
            · dsimp only [Option.toList, List.cons_append, List.nil_append, Nat.beq, gI_sI, gI_sL, gI_sA, gI_sM, gL_sI, gL_sL, gL_sA, gL_sM, aI_sI, aI_sL, aI_sA, aI_sM, aL_sI, aL_sL, aL_sA, aL_sM]
              have hR85 := SR.kr (e_ := 0) (by repeat (first | exact hR79 | refine SR.i ?_ rfl | refine SR.a ?_ rfl)) hX85 acc2
              have hg85 := FgR.kr (e_ := 0) (s := (accY z.1)) (n := n) (by repeat (first | exact hg79 | refine FgR.i ?_ rfl | refine FgR.a ?_ rfl)) (by repeat (first | exact hR79 | refine SR.i ?_ rfl | refine SR.a ?_ rfl)) hX85
              have hf85 := frR_kr hX85
              have k6_85 : 0 < gI τ85 36 := by rw [hX85.2.2.1.1 36 rfl]; exact k6_79
              have k9_85 : nT (gI τ76 49) < nT (gI τ85 49) := by rw [hX85.2.2.1.1 49 rfl]; exact k9_79
              have hZ85 : BZ N τ85 (xpM 6 (accM (coM 41 (tnM z : Int) 0 (zAt z.1) (thM (seM (snM z) (sLk (zAt z.1)) (beM 6 (lvN n) (coM 20 0 0 (zAt z.1) z))))))) F F := BZ.xp (by repeat (first | exact hZ79 | refine BZ.i ?_ rfl | refine BZ.a ?_ rfl)) hS85 hL85
              have hK85 : KtR τ85 (xpM 6 (accM (coM 41 (tnM z : Int) 0 (zAt z.1) (thM (seM (snM z) (sLk (zAt z.1)) (beM 6 (lvN n) (coM 20 0 0 (zAt z.1) z))))))) := KtR.xp (by repeat (first | exact hK79 | refine KtR.i ?_ | refine KtR.a ?_ (by decide))) hS85
              have hs85 : (xpM 6 (accM (coM 41 (tnM z : Int) 0 (zAt z.1) (thM (seM (snM z) (sLk (zAt z.1)) (beM 6 (lvN n) (coM 20 0 0 (zAt z.1) z))))))).1 = (accY (accY z.1)) := (congrArg (xpY 6) hs79).trans (xp_y hc6a)
              have hPg85 : PgZ z (thM (seM (snM z) (sLk (zAt z.1)) (beM 6 (lvN n) (coM 20 0 0 (zAt z.1) z)))) (xpM 6 (accM (coM 41 (tnM z : Int) 0 (zAt z.1) (thM (seM (snM z) (sLk (zAt z.1)) (beM 6 (lvN n) (coM 20 0 0 (zAt z.1) z))))))) := PgZ.e hPg79 rfl rfl
              have k4_85 : (xpM 6 (accM (coM 41 (tnM z : Int) 0 (zAt z.1) (thM (seM (snM z) (sLk (zAt z.1)) (beM 6 (lvN n) (coM 20 0 0 (zAt z.1) z))))))).2.2.2 = (thM (seM (snM z) (sLk (zAt z.1)) (beM 6 (lvN n) (coM 20 0 0 (zAt z.1) z)))).2.2.2 := k4_79
              have r60_85 : aI τ85 60 = _ := (hS85.2 60).trans r60_79
              refine ⟨fun h89 => absurd h89 (by decide), fun h89 => ?_⟩
              clear h89
              refine hB _ _ _ _ _ (fun m90 hm90 => ?_)
              dsimp only [ugo, uwp, ust, uct, rfd, Bstatement, Nat.beq, lv_args, rlk, rs1, rs2, rdl, rky, rcd, rno, rsw, Value.category, List.filter, List.take, List.drop, List.reverse, List.reverseAux, List.cons_append, List.nil_append, Option.toList, Int.toNat, Int.reduceToNat, if_pos, if_neg, reduceIte, ↓reduceIte, Nat.reduceAdd, Nat.reduceEqDiff, Nat.reduceBEq, beq_self_eq_true, Bool.not_true, Bool.not_false, Bool.and_true, Bool.and_false, Bool.true_and, Bool.false_and, gI_sI, gI_sL, gI_sA, gI_sM, gL_sI, gL_sL, gL_sA, gL_sM, aI_sI, aI_sL, aI_sA, aI_sM, aL_sI, aL_sL, aL_sA, aL_sM, Bstatement_0, Bstatement_14, Bstatement_37, Bstatement_47, Bstatement_51, Bstatement_52, Bstatement_53, Bstatement_63, Bstatement_75, Bstatement_108, Bstatement_115, Bstatement_126, Bstatement_130, Bstatement_131, Bstatement_132, Bstatement_142, Bstatement_147, Bstatement_220, Bstatement_225, Bstatement_230, Bstatement_235, Bstatement_240, Bstatement_245, Bstatement_250, Bstatement_255, Bstatement_260, oi_0, oi_1, oi_123, oi_20, oi_4, oi_41, oi_58, oi_7]; try dsimp only
              refine ⟨trivial, fun w91 τ91 hq91 => ?_⟩
              obtain ⟨hq91, hL91⟩ := hq91
              have hq91 := hq91 (accY (accY z.1)) n ⟨(by repeat (first | exact hR85 | refine SR.i ?_ rfl | refine SR.a ?_ rfl)), (by repeat (first | exact hg85 | refine FgR.i ?_ rfl | refine FgR.a ?_ rfl)), k9_85, by decide, (iff_of_false (by decide) (by (try simp only [frR_i, frR_a, ne_eq, Nat.reduceEqDiff, not_false_eq_true, hf85, hf79, hf78, hf77, hf76]); exact hne)), k6_85, (fun q => absurd q (by decide))⟩
              rcases hq91 with ⟨rfl, hn91, hF91⟩ | ⟨rfl, hn91, hR91, hg91, hf91, hOp91⟩
              · dsimp only [Option.toList, List.cons_append, List.nil_append, Nat.beq, gI_sI, gI_sL, gI_sA, gI_sM, gL_sI, gL_sL, gL_sA, gL_sM, aI_sI, aI_sL, aI_sA, aI_sM, aL_sI, aL_sL, aL_sA, aL_sM]
                refine ⟨fun h92 => ?_, fun h92 => absurd h92 (by decide)⟩
                clear h92
                refine hB _ _ _ _ _ (fun m93 hm93 => ?_)
                dsimp only [ugo, uwp, ust, uct, rfd, Bstatement, Nat.beq, lv_args, rlk, rs1, rs2, rdl, rky, rcd, rno, rsw, Value.category, List.filter, List.take, List.drop, List.reverse, List.reverseAux, List.cons_append, List.nil_append, Option.toList, Int.toNat, Int.reduceToNat, if_pos, if_neg, reduceIte, ↓reduceIte, Nat.reduceAdd, Nat.reduceEqDiff, Nat.reduceBEq, beq_self_eq_true, Bool.not_true, Bool.not_false, Bool.and_true, Bool.and_false, Bool.true_and, Bool.false_and, gI_sI, gI_sL, gI_sA, gI_sM, gL_sI, gL_sL, gL_sA, gL_sM, aI_sI, aI_sL, aI_sA, aI_sM, aL_sI, aL_sL, aL_sA, aL_sM, Bstatement_0, Bstatement_14, Bstatement_37, Bstatement_47, Bstatement_51, Bstatement_52, Bstatement_53, Bstatement_63, Bstatement_75, Bstatement_108, Bstatement_115, Bstatement_126, Bstatement_130, Bstatement_131, Bstatement_132, Bstatement_142, Bstatement_147, Bstatement_220, Bstatement_225, Bstatement_230, Bstatement_235, Bstatement_240, Bstatement_245, Bstatement_250, Bstatement_255, Bstatement_260, oi_0, oi_1, oi_123, oi_20, oi_4, oi_41, oi_58, oi_7]; try dsimp only
                refine hB _ _ _ _ _ (fun m94 hm94 => ?_)
                dsimp only [ugo, uwp, ust, uct, rfd, Bstatement, Nat.beq, lv_args, rlk, rs1, rs2, rdl, rky, rcd, rno, rsw, Value.category, List.filter, List.take, List.drop, List.reverse, List.reverseAux, List.cons_append, List.nil_append, Option.toList, Int.toNat, Int.reduceToNat, if_pos, if_neg, reduceIte, ↓reduceIte, Nat.reduceAdd, Nat.reduceEqDiff, Nat.reduceBEq, beq_self_eq_true, Bool.not_true, Bool.not_false, Bool.and_true, Bool.and_false, Bool.true_and, Bool.false_and, gI_sI, gI_sL, gI_sA, gI_sM, gL_sI, gL_sL, gL_sA, gL_sM, aI_sI, aI_sL, aI_sA, aI_sM, aL_sI, aL_sL, aL_sA, aL_sM, Bstatement_0, Bstatement_14, Bstatement_37, Bstatement_47, Bstatement_51, Bstatement_52, Bstatement_53, Bstatement_63, Bstatement_75, Bstatement_108, Bstatement_115, Bstatement_126, Bstatement_130, Bstatement_131, Bstatement_132, Bstatement_142, Bstatement_147, Bstatement_220, Bstatement_225, Bstatement_230, Bstatement_235, Bstatement_240, Bstatement_245, Bstatement_250, Bstatement_255, Bstatement_260, oi_0, oi_1, oi_123, oi_20, oi_4, oi_41, oi_58, oi_7]; try dsimp only
                unfold Qv_statementZ
                try dsimp only
                refine StZ.o hPhi ?_
                rw [st_lab' hnn.2.1 hc8 hc6, xp_y hc6a, st_0 hn91]
                refine StQ.f hF91 ?_
                exact (by repeat (first | with_reducible exact GpY.rf | with_reducible refine GpY.tr ?_ (gd_fo _) | with_reducible refine GpY.tr ?_ (gd_ef _) | with_reducible refine GpY.tr ?_ (gd_cf _) | with_reducible refine GpY.tr ?_ (gd_wt _) | with_reducible refine GpY.tr ?_ (gd_xp _) | with_reducible refine GpY.tr ?_ (gd_acc _) | with_reducible refine GpY.tr ?_ (gd_rai _) | with_reducible refine GpY.tr ?_ (gd_e _) | with_reducible refine GpY.tr ?_ (gd_o _) | with_reducible refine GpY.tr ?_ (gd_c _) | with_reducible refine GpY.tr ?_ (gd_op _) | with_reducible refine GpY.tr ?_ (gd_clp gd_e _ _) | with_reducible refine GpY.tr ?_ (gd_tl _) | with_reducible refine GpY.tr ?_ (gd_sf _ _ _) | with_reducible refine GpY.tr ?_ (gd_cl _) | with_reducible refine GpY.tr ?_ (gd_pc _) | with_reducible refine GpY.tr ?_ (gd_st _) | with_reducible refine GpY.tr ?_ (gd_rw _) | with_reducible refine GpY.tr ?_ (gd_typ _) | with_reducible refine GpY.tr ?_ (gd_dcl _) | with_reducible refine GpY.tr ?_ (gd_va2 _) | with_reducible refine GpY.tr ?_ (gd_cnd _) | with_reducible refine GpY.tr ?_ (gd_tr1 _) | with_reducible refine GpY.tr ?_ (gd_tr2 (fun _ => gd_rw) _) | with_reducible refine GpY.tr ?_ (gd_tr3 (fun _ => gd_rw) _) | with_reducible refine GpY.tr ?_ (gd_fo1 _) | with_reducible refine GpY.tr ?_ (gd_fo2 _) | with_reducible refine GpY.tr ?_ (gd_fo3 _) | with_reducible refine GpY.tr ?_ (gd_fex _) | with_reducible refine GpY.tr ?_ (pg_var.1) | with_reducible refine GpY.tr ?_ (pg_cas.1) | exact GpY.rf))
              · dsimp only [Option.toList, List.cons_append, List.nil_append, Nat.beq, gI_sI, gI_sL, gI_sA, gI_sM, gL_sI, gL_sL, gL_sA, gL_sM, aI_sI, aI_sL, aI_sA, aI_sM, aL_sI, aL_sL, aL_sA, aL_sM]
                have hf91 : frR τ91 = (7 : Int) :: _ := hf91
                have hlt7 : snM z < snM (thM (seM (snM z) (sLk (zAt z.1)) (beM 6 (lvN n) (coM 20 0 0 (zAt z.1) z)))) := Nat.lt_succ_self _
                have hR7 := hPg85.1.2 (snM z) hlt7
                have hB7 : reS (thM (seM (snM z) (sLk (zAt z.1)) (beM 6 (lvN n) (coM 20 0 0 (zAt z.1) z)))) (snM z) = ((6, zAt z.1, lvN n, z.2.2.2.1.2), z.2.2.2.1.1, (-1, -1, -1, -1, -1, zAt z.1, (tnM z : Int))) := R_bl (z := coM 20 0 0 (zAt z.1) z)
                have hfi : fiS (xpM 6 (accM (coM 41 (tnM z : Int) 0 (zAt z.1) (thM (seM (snM z) (sLk (zAt z.1)) (beM 6 (lvN n) (coM 20 0 0 (zAt z.1) z))))))) (snM z) = zAt z.1 := by unfold fiS; rw [hR7.1, hB7]
                have hlj : ljS (xpM 6 (accM (coM 41 (tnM z : Int) 0 (zAt z.1) (thM (seM (snM z) (sLk (zAt z.1)) (beM 6 (lvN n) (coM 20 0 0 (zAt z.1) z))))))) (snM z) = zAt z.1 := by rw [hR7.2.2.2 (by unfold kjS; rw [hB7])]; unfold ljS; rw [hB7]
                have hsg0 : SgZ z (xpM 6 (accM (coM 41 (tnM z : Int) 0 (zAt z.1) (thM (seM (snM z) (sLk (zAt z.1)) (beM 6 (lvN n) (coM 20 0 0 (zAt z.1) z))))))) := (SgZ.tr (SgZ.e rfl) (SgZ.bl (z := coM 20 0 0 (zAt z.1) z) (k := 6) (lv := lvN n) (v := zAt z.1))).tr (SgZ.tr (SgZ.e rfl) hPg85.1)
                have hZf := BZ.f' (k := 7) (kd := 6) (lv := lvN n) (x := []) hZ hZ85 hsg0 (Nat.lt_of_lt_of_le hlt7 hPg85.1.1) ⟨by rw [hR7.1, hB7], by rw [hR7.2.1, hB7], by rw [hR7.2.2.1]; unfold tjS; rw [hB7]⟩ ((congrArg Prod.fst (show (xpM 6 (accM (coM 41 (tnM z : Int) 0 (zAt z.1) (thM (seM (snM z) (sLk (zAt z.1)) (beM 6 (lvN n) (coM 20 0 0 (zAt z.1) z))))))).2.2.2 = (thM (seM (snM z) (sLk (zAt z.1)) (beM 6 (lvN n) (coM 20 0 0 (zAt z.1) z)))).2.2.2 from k4_85)).trans rfl) ((congrArg (fun y => y.2.2.2) (show (xpM 6 (accM (coM 41 (tnM z : Int) 0 (zAt z.1) (thM (seM (snM z) (sLk (zAt z.1)) (beM 6 (lvN n) (coM 20 0 0 (zAt z.1) z))))))).2.2.2 = (thM (seM (snM z) (sLk (zAt z.1)) (beM 6 (lvN n) (coM 20 0 0 (zAt z.1) z)))).2.2.2 from k4_85)).trans rfl) hu (by decide) rfl (fun _ => by rw [hlj, hfi])
                have h3q : aI τ85 3 = aI σ 3 := (hS85.2 3).trans ((hS79.2 3).trans ((hE78.2.2.2.2.1 3 (by omega)).trans ((hTz77.1.2.2.2.1 3 (by omega)).trans (hE76.2.2.2.2.1 3 (by omega)))))
                have h2q : gI τ85 2 = gI σ 2 := (hS85.1 2 (by decide)).trans ((hS79.1 2 (by decide)).trans ((hE78.1 2 (by decide)).trans ((hTz77.1.1 2 (by decide)).trans (hE76.1 2 (by decide)))))
                have hk3 : aI σ 3 (gI σ 14).toNatClampNeg = 1 := by lia
                have hZ91 : BZ N τ91 (arM (snM z) (xpM 6 (accM (coM 41 (tnM z : Int) 0 (zAt z.1) (thM (seM (snM z) (sLk (zAt z.1)) (beM 6 (lvN n) (coM 20 0 0 (zAt z.1) z)))))))) ((frB 7 z []) :: F) ((frB 7 z []) :: F) := BZ.op (a := (frB 7 z [])) (F := F) (z := (arM (snM z) (xpM 6 (accM (coM 41 (tnM z : Int) 0 (zAt z.1) (thM (seM (snM z) (sLk (zAt z.1)) (beM 6 (lvN n) (coM 20 0 0 (zAt z.1) z))))))))) (by repeat (first | exact hZf | refine BZ.i ?_ rfl | refine BZ.a ?_ rfl)) hOp91 hL91 rfl hkI (fun _ => ⟨hstI, (show itN (xpM 6 (accM (coM 41 (tnM z : Int) 0 (zAt z.1) (thM (seM (snM z) (sLk (zAt z.1)) (beM 6 (lvN n) (coM 20 0 0 (zAt z.1) z))))))).2.1 (cnM z) = some (.inr (20, 0, 0, fiS (xpM 6 (accM (coM 41 (tnM z : Int) 0 (zAt z.1) (thM (seM (snM z) (sLk (zAt z.1)) (beM 6 (lvN n) (coM 20 0 0 (zAt z.1) z))))))) (snM z), -1)) by rw [hfi]; exact hPg85.st), (show (aI _ 60 (tnM z)).toInt = fiS (xpM 6 (accM (coM 41 (tnM z : Int) 0 (zAt z.1) (thM (seM (snM z) (sLk (zAt z.1)) (beM 6 (lvN n) (coM 20 0 0 (zAt z.1) z))))))) (snM z) by rw [hfi]; exact (congrArg Int32.toInt (congrFun r60_85 _)).trans r60_77)⟩) ⟨(fun _ => ⟨nT (gI σ 14), by show fiS (xpM 6 (accM (coM 41 (tnM z : Int) 0 (zAt z.1) (thM (seM (snM z) (sLk (zAt z.1)) (beM 6 (lvN n) (coM 20 0 0 (zAt z.1) z))))))) (snM z) = _; rw [hfi, ← hC]; exact toI_n hR.1.2.1.2.1, by rw [h2q]; exact nT_lt hR.1.2.1.2.1 hR.1.2.1.2.2.1, nT_le (y := 500) hR.1.2.1.2.1 hR.1.2.1.2.2.2, by rw [h3q]; exact hk3⟩), (fun q => absurd (show (7 : Int) = 0 from q) (by decide))⟩ (fun q => absurd (show (7 : Int) = 9 from q) (by decide))
                have hK91 : KtR τ91 (arM (snM z) (xpM 6 (accM (coM 41 (tnM z : Int) 0 (zAt z.1) (thM (seM (snM z) (sLk (zAt z.1)) (beM 6 (lvN n) (coM 20 0 0 (zAt z.1) z)))))))) := KtR.z (by repeat (first | exact hK85 | refine KtR.i ?_ | refine KtR.a ?_ (by decide))) rfl rfl (fun a h1 h2 => hOp91.2.2.2.1 a (by omega))
                have hs91 : (arM (snM z) (xpM 6 (accM (coM 41 (tnM z : Int) 0 (zAt z.1) (thM (seM (snM z) (sLk (zAt z.1)) (beM 6 (lvN n) (coM 20 0 0 (zAt z.1) z)))))))).1 = (accY (accY z.1)) := hs85
                have hPg91 : PgZ z (thM (seM (snM z) (sLk (zAt z.1)) (beM 6 (lvN n) (coM 20 0 0 (zAt z.1) z)))) (arM (snM z) (xpM 6 (accM (coM 41 (tnM z : Int) 0 (zAt z.1) (thM (seM (snM z) (sLk (zAt z.1)) (beM 6 (lvN n) (coM 20 0 0 (zAt z.1) z)))))))) := PgZ.e hPg85 rfl rfl
                refine ⟨fun h95 => absurd h95 (by decide), fun h95 => ?_⟩
                clear h95
                refine hB _ _ _ _ _ (fun m96 hm96 => ?_)
                dsimp only [ugo, uwp, ust, uct, rfd, Bstatement, Nat.beq, lv_args, rlk, rs1, rs2, rdl, rky, rcd, rno, rsw, Value.category, List.filter, List.take, List.drop, List.reverse, List.reverseAux, List.cons_append, List.nil_append, Option.toList, Int.toNat, Int.reduceToNat, if_pos, if_neg, reduceIte, ↓reduceIte, Nat.reduceAdd, Nat.reduceEqDiff, Nat.reduceBEq, beq_self_eq_true, Bool.not_true, Bool.not_false, Bool.and_true, Bool.and_false, Bool.true_and, Bool.false_and, gI_sI, gI_sL, gI_sA, gI_sM, gL_sI, gL_sL, gL_sA, gL_sM, aI_sI, aI_sL, aI_sA, aI_sM, aL_sI, aL_sL, aL_sA, aL_sM, Bstatement_0, Bstatement_14, Bstatement_37, Bstatement_47, Bstatement_51, Bstatement_52, Bstatement_53, Bstatement_63, Bstatement_75, Bstatement_108, Bstatement_115, Bstatement_126, Bstatement_130, Bstatement_131, Bstatement_132, Bstatement_142, Bstatement_147, Bstatement_220, Bstatement_225, Bstatement_230, Bstatement_235, Bstatement_240, Bstatement_245, Bstatement_250, Bstatement_255, Bstatement_260, oi_0, oi_1, oi_123, oi_20, oi_4, oi_41, oi_58, oi_7]; try dsimp only
                refine hB _ _ _ _ _ (fun m97 hm97 => ?_)
                dsimp only [ugo, uwp, ust, uct, rfd, Bstatement, Nat.beq, lv_args, rlk, rs1, rs2, rdl, rky, rcd, rno, rsw, Value.category, List.filter, List.take, List.drop, List.reverse, List.reverseAux, List.cons_append, List.nil_append, Option.toList, Int.toNat, Int.reduceToNat, if_pos, if_neg, reduceIte, ↓reduceIte, Nat.reduceAdd, Nat.reduceEqDiff, Nat.reduceBEq, beq_self_eq_true, Bool.not_true, Bool.not_false, Bool.and_true, Bool.and_false, Bool.true_and, Bool.false_and, gI_sI, gI_sL, gI_sA, gI_sM, gL_sI, gL_sL, gL_sA, gL_sM, aI_sI, aI_sL, aI_sA, aI_sM, aL_sI, aL_sL, aL_sA, aL_sM, Bstatement_0, Bstatement_14, Bstatement_37, Bstatement_47, Bstatement_51, Bstatement_52, Bstatement_53, Bstatement_63, Bstatement_75, Bstatement_108, Bstatement_115, Bstatement_126, Bstatement_130, Bstatement_131, Bstatement_132, Bstatement_142, Bstatement_147, Bstatement_220, Bstatement_225, Bstatement_230, Bstatement_235, Bstatement_240, Bstatement_245, Bstatement_250, Bstatement_255, Bstatement_260, oi_0, oi_1, oi_123, oi_20, oi_4, oi_41, oi_58, oi_7]; try dsimp only
                unfold Qv_statementZ
                try dsimp only
                exact Or.inr ⟨rfl, (arM (snM z) (xpM 6 (accM (coM 41 (tnM z : Int) 0 (zAt z.1) (thM (seM (snM z) (sLk (zAt z.1)) (beM 6 (lvN n) (coM 20 0 0 (zAt z.1) z)))))))), (n - 1), (frB 7 z [] :: F), (by rw [show (arM (snM z) (xpM 6 (accM (coM 41 (tnM z : Int) 0 (zAt z.1) (thM (seM (snM z) (sLk (zAt z.1)) (beM 6 (lvN n) (coM 20 0 0 (zAt z.1) z)))))))).1 = (accY (accY z.1)) from hs91]; exact (by repeat (first | exact hR91 | refine SR.i ?_ rfl | refine SR.a ?_ rfl))), FgR.ny (by repeat (first | exact hg91 | refine FgR.i ?_ rfl | refine FgR.a ?_ rfl)) hf91 (by decide) (Or.inl rfl), (by repeat (first | exact hZ91 | refine BZ.i ?_ rfl | refine BZ.a ?_ rfl)), (by repeat (first | exact hK91 | refine KtR.i ?_ | refine KtR.a ?_ (by decide))), hw, (fun _ => rfl), (by rw [show (arM (snM z) (xpM 6 (accM (coM 41 (tnM z : Int) 0 (zAt z.1) (thM (seM (snM z) (sLk (zAt z.1)) (beM 6 (lvN n) (coM 20 0 0 (zAt z.1) z)))))))).1 = (accY (accY z.1)) from hs91]; exact GpY.a1 (by repeat (first | with_reducible exact GpY.rf | with_reducible refine GpY.tr ?_ (gd_fo _) | with_reducible refine GpY.tr ?_ (gd_ef _) | with_reducible refine GpY.tr ?_ (gd_cf _) | with_reducible refine GpY.tr ?_ (gd_wt _) | with_reducible refine GpY.tr ?_ (gd_xp _) | with_reducible refine GpY.tr ?_ (gd_acc _) | with_reducible refine GpY.tr ?_ (gd_rai _) | with_reducible refine GpY.tr ?_ (gd_e _) | with_reducible refine GpY.tr ?_ (gd_o _) | with_reducible refine GpY.tr ?_ (gd_c _) | with_reducible refine GpY.tr ?_ (gd_op _) | with_reducible refine GpY.tr ?_ (gd_clp gd_e _ _) | with_reducible refine GpY.tr ?_ (gd_tl _) | with_reducible refine GpY.tr ?_ (gd_sf _ _ _) | with_reducible refine GpY.tr ?_ (gd_cl _) | with_reducible refine GpY.tr ?_ (gd_pc _) | with_reducible refine GpY.tr ?_ (gd_st _) | with_reducible refine GpY.tr ?_ (gd_rw _) | with_reducible refine GpY.tr ?_ (gd_typ _) | with_reducible refine GpY.tr ?_ (gd_dcl _) | with_reducible refine GpY.tr ?_ (gd_va2 _) | with_reducible refine GpY.tr ?_ (gd_cnd _) | with_reducible refine GpY.tr ?_ (gd_tr1 _) | with_reducible refine GpY.tr ?_ (gd_tr2 (fun _ => gd_rw) _) | with_reducible refine GpY.tr ?_ (gd_tr3 (fun _ => gd_rw) _) | with_reducible refine GpY.tr ?_ (gd_fo1 _) | with_reducible refine GpY.tr ?_ (gd_fo2 _) | with_reducible refine GpY.tr ?_ (gd_fo3 _) | with_reducible refine GpY.tr ?_ (gd_fex _) | with_reducible refine GpY.tr ?_ (gp_varZ) | with_reducible refine GpY.tr ?_ (gp_casZ) | exact GpY.rf)) hR.1.a5.2 ha1), (pc_stM (by simp [frB])).trans (sm_la' hnn.2.1 hc8 hc6).symm⟩
        · dsimp only [Option.toList, List.cons_append, List.nil_append, Nat.beq, gI_sI, gI_sL, gI_sA, gI_sM, gL_sI, gL_sL, gL_sA, gL_sM, aI_sI, aI_sL, aI_sA, aI_sM, aL_sI, aL_sL, aL_sA, aL_sM]
          refine ⟨fun h98 => ?_, fun h98 => absurd h98 (by decide)⟩
          clear h98
          refine hB _ _ _ _ _ (fun m99 hm99 => ?_)
          dsimp only [ugo, uwp, ust, uct, rfd, Bstatement, Nat.beq, lv_args, rlk, rs1, rs2, rdl, rky, rcd, rno, rsw, Value.category, List.filter, List.take, List.drop, List.reverse, List.reverseAux, List.cons_append, List.nil_append, Option.toList, Int.toNat, Int.reduceToNat, if_pos, if_neg, reduceIte, ↓reduceIte, Nat.reduceAdd, Nat.reduceEqDiff, Nat.reduceBEq, beq_self_eq_true, Bool.not_true, Bool.not_false, Bool.and_true, Bool.and_false, Bool.true_and, Bool.false_and, gI_sI, gI_sL, gI_sA, gI_sM, gL_sI, gL_sL, gL_sA, gL_sM, aI_sI, aI_sL, aI_sA, aI_sM, aL_sI, aL_sL, aL_sA, aL_sM, Bstatement_0, Bstatement_14, Bstatement_37, Bstatement_47, Bstatement_51, Bstatement_52, Bstatement_53, Bstatement_63, Bstatement_75, Bstatement_108, Bstatement_115, Bstatement_126, Bstatement_130, Bstatement_131, Bstatement_132, Bstatement_142, Bstatement_147, Bstatement_220, Bstatement_225, Bstatement_230, Bstatement_235, Bstatement_240, Bstatement_245, Bstatement_250, Bstatement_255, Bstatement_260, oi_0, oi_1, oi_123, oi_20, oi_4, oi_41, oi_58, oi_7]; try dsimp only
          intro p100
          refine ⟨fun h101 => ?_, fun h101 => ?_⟩
          · refine hB _ _ _ _ _ (fun m102 hm102 => ?_)
            dsimp only [ugo, uwp, ust, uct, rfd, Bstatement, Nat.beq, lv_args, rlk, rs1, rs2, rdl, rky, rcd, rno, rsw, Value.category, List.filter, List.take, List.drop, List.reverse, List.reverseAux, List.cons_append, List.nil_append, Option.toList, Int.toNat, Int.reduceToNat, if_pos, if_neg, reduceIte, ↓reduceIte, Nat.reduceAdd, Nat.reduceEqDiff, Nat.reduceBEq, beq_self_eq_true, Bool.not_true, Bool.not_false, Bool.and_true, Bool.and_false, Bool.true_and, Bool.false_and, gI_sI, gI_sL, gI_sA, gI_sM, gL_sI, gL_sL, gL_sA, gL_sM, aI_sI, aI_sL, aI_sA, aI_sM, aL_sI, aL_sL, aL_sA, aL_sM, Bstatement_0, Bstatement_14, Bstatement_37, Bstatement_47, Bstatement_51, Bstatement_52, Bstatement_53, Bstatement_63, Bstatement_75, Bstatement_108, Bstatement_115, Bstatement_126, Bstatement_130, Bstatement_131, Bstatement_132, Bstatement_142, Bstatement_147, Bstatement_220, Bstatement_225, Bstatement_230, Bstatement_235, Bstatement_240, Bstatement_245, Bstatement_250, Bstatement_255, Bstatement_260, oi_0, oi_1, oi_123, oi_20, oi_4, oi_41, oi_58, oi_7]; try dsimp only
            intro p103
            refine ⟨fun h104 => ?_, fun h104 => ?_⟩
            · refine hB _ _ _ _ _ (fun m105 hm105 => ?_)
              dsimp only [ugo, uwp, ust, uct, rfd, Bstatement, Nat.beq, lv_args, rlk, rs1, rs2, rdl, rky, rcd, rno, rsw, Value.category, List.filter, List.take, List.drop, List.reverse, List.reverseAux, List.cons_append, List.nil_append, Option.toList, Int.toNat, Int.reduceToNat, if_pos, if_neg, reduceIte, ↓reduceIte, Nat.reduceAdd, Nat.reduceEqDiff, Nat.reduceBEq, beq_self_eq_true, Bool.not_true, Bool.not_false, Bool.and_true, Bool.and_false, Bool.true_and, Bool.false_and, gI_sI, gI_sL, gI_sA, gI_sM, gL_sI, gL_sL, gL_sA, gL_sM, aI_sI, aI_sL, aI_sA, aI_sM, aL_sI, aL_sL, aL_sA, aL_sM, Bstatement_0, Bstatement_14, Bstatement_37, Bstatement_47, Bstatement_51, Bstatement_52, Bstatement_53, Bstatement_63, Bstatement_75, Bstatement_108, Bstatement_115, Bstatement_126, Bstatement_130, Bstatement_131, Bstatement_132, Bstatement_142, Bstatement_147, Bstatement_220, Bstatement_225, Bstatement_230, Bstatement_235, Bstatement_240, Bstatement_245, Bstatement_250, Bstatement_255, Bstatement_260, oi_0, oi_1, oi_123, oi_20, oi_4, oi_41, oi_58, oi_7]; try dsimp only
              have hcw : codY z.1 = 56 := (SR.sh hR).wd (x := 6) (by decide) |>.mp ⟨by lia, Int32.toInt_inj.mp h104⟩
              refine ⟨trivial, fun w106 τ106 hq106 => ?_⟩
              obtain ⟨hq106, hL106⟩ := hq106
              have hq106 : StZ N τ106 _ w106 := hq106 N z n F ⟨(by repeat (first | exact hR | refine SR.i ?_ rfl | refine SR.a ?_ rfl)), (by repeat (first | exact hg | refine FgR.i ?_ rfl | refine FgR.a ?_ rfl)), (by (try simp only [frR_i, frR_a, ne_eq, Nat.reduceEqDiff, not_false_eq_true]); exact hne), (by repeat (first | exact hZ | refine BZ.i ?_ rfl | refine BZ.a ?_ rfl)), (by repeat (first | exact hK | refine KtR.i ?_ | refine KtR.a ?_ (by decide))), hw, hu, ha1, (by omega)⟩
              have hv106 : w106 = some (.int 0) ∨ w106 = some (.int 1) := hq106.imp (fun q => q.1) (fun q => q.1)
              rcases hv106 with rfl | rfl
              · dsimp only [Option.toList, List.cons_append, List.nil_append, Nat.beq, gI_sI, gI_sL, gI_sA, gI_sM, gL_sI, gL_sL, gL_sA, gL_sM, aI_sI, aI_sL, aI_sA, aI_sM, aL_sI, aL_sL, aL_sA, aL_sM]
                unfold Qv_statementZ
                try dsimp only
                exact hq106
              · dsimp only [Option.toList, List.cons_append, List.nil_append, Nat.beq, gI_sI, gI_sL, gI_sA, gI_sM, gL_sI, gL_sL, gL_sA, gL_sM, aI_sI, aI_sL, aI_sA, aI_sM, aL_sI, aL_sL, aL_sA, aL_sM]
                unfold Qv_statementZ
                try dsimp only
                exact hq106
            refine ⟨fun h107 => ?_, fun h107 => ?_⟩
            · refine hB _ _ _ _ _ (fun m108 hm108 => ?_)
              dsimp only [ugo, uwp, ust, uct, rfd, Bstatement, Nat.beq, lv_args, rlk, rs1, rs2, rdl, rky, rcd, rno, rsw, Value.category, List.filter, List.take, List.drop, List.reverse, List.reverseAux, List.cons_append, List.nil_append, Option.toList, Int.toNat, Int.reduceToNat, if_pos, if_neg, reduceIte, ↓reduceIte, Nat.reduceAdd, Nat.reduceEqDiff, Nat.reduceBEq, beq_self_eq_true, Bool.not_true, Bool.not_false, Bool.and_true, Bool.and_false, Bool.true_and, Bool.false_and, gI_sI, gI_sL, gI_sA, gI_sM, gL_sI, gL_sL, gL_sA, gL_sM, aI_sI, aI_sL, aI_sA, aI_sM, aL_sI, aL_sL, aL_sA, aL_sM, Bstatement_0, Bstatement_14, Bstatement_37, Bstatement_47, Bstatement_51, Bstatement_52, Bstatement_53, Bstatement_63, Bstatement_75, Bstatement_108, Bstatement_115, Bstatement_126, Bstatement_130, Bstatement_131, Bstatement_132, Bstatement_142, Bstatement_147, Bstatement_220, Bstatement_225, Bstatement_230, Bstatement_235, Bstatement_240, Bstatement_245, Bstatement_250, Bstatement_255, Bstatement_260, oi_0, oi_1, oi_123, oi_20, oi_4, oi_41, oi_58, oi_7]; try dsimp only
              have h6n : ¬ (codY z.1 = 80 ∧ cobY z.1 = 6) := fun q => (by by_cases hz : zAt z.1 < 500; exact hk73 ⟨((SR.sh hR).nx q.1 hz).1, by have e := (tk_sg (a := 58) (d := 6) ((SR.sh hR).nx q.1 hz).2 (by decide)).mpr q.2; exact Int32.toInt_inj.mp e.1, by have e := (tk_sg (a := 58) (d := 6) ((SR.sh hR).nx q.1 hz).2 (by decide)).mpr q.2; exact Int32.toInt_inj.mp e.2⟩; have := cob_l hz; omega)
              have hcw : codY z.1 = 57 := (SR.sh hR).wd (x := 7) (by decide) |>.mp ⟨by lia, Int32.toInt_inj.mp h107⟩
              refine ⟨trivial, fun w109 τ109 hq109 => ?_⟩
              obtain ⟨hq109, hL109⟩ := hq109
              have hq109 : StZ N τ109 _ w109 := hq109 N z n F ⟨(by repeat (first | exact hR | refine SR.i ?_ rfl | refine SR.a ?_ rfl)), (by repeat (first | exact hg | refine FgR.i ?_ rfl | refine FgR.a ?_ rfl)), (by (try simp only [frR_i, frR_a, ne_eq, Nat.reduceEqDiff, not_false_eq_true]); exact hne), (by repeat (first | exact hZ | refine BZ.i ?_ rfl | refine BZ.a ?_ rfl)), (by repeat (first | exact hK | refine KtR.i ?_ | refine KtR.a ?_ (by decide))), hw, hu, ha1, (by refine ⟨?_, ?_, ?_, ?_, ?_, ?_, ?_, ?_, ?_, ?_, ?_, h6n⟩ <;> omega)⟩
              have hv109 : w109 = some (.int 0) ∨ w109 = some (.int 1) := hq109.imp (fun q => q.1) (fun q => q.1)
              rcases hv109 with rfl | rfl
              · dsimp only [Option.toList, List.cons_append, List.nil_append, Nat.beq, gI_sI, gI_sL, gI_sA, gI_sM, gL_sI, gL_sL, gL_sA, gL_sM, aI_sI, aI_sL, aI_sA, aI_sM, aL_sI, aL_sL, aL_sA, aL_sM]
                unfold Qv_statementZ
                try dsimp only
                exact hq109
              · dsimp only [Option.toList, List.cons_append, List.nil_append, Nat.beq, gI_sI, gI_sL, gI_sA, gI_sM, gL_sI, gL_sL, gL_sA, gL_sM, aI_sI, aI_sL, aI_sA, aI_sM, aL_sI, aL_sL, aL_sA, aL_sM]
                unfold Qv_statementZ
                try dsimp only
                exact hq109
            refine ⟨fun h110 => ?_, fun h110 => ?_⟩
            · refine hB _ _ _ _ _ (fun m111 hm111 => ?_)
              dsimp only [ugo, uwp, ust, uct, rfd, Bstatement, Nat.beq, lv_args, rlk, rs1, rs2, rdl, rky, rcd, rno, rsw, Value.category, List.filter, List.take, List.drop, List.reverse, List.reverseAux, List.cons_append, List.nil_append, Option.toList, Int.toNat, Int.reduceToNat, if_pos, if_neg, reduceIte, ↓reduceIte, Nat.reduceAdd, Nat.reduceEqDiff, Nat.reduceBEq, beq_self_eq_true, Bool.not_true, Bool.not_false, Bool.and_true, Bool.and_false, Bool.true_and, Bool.false_and, gI_sI, gI_sL, gI_sA, gI_sM, gL_sI, gL_sL, gL_sA, gL_sM, aI_sI, aI_sL, aI_sA, aI_sM, aL_sI, aL_sL, aL_sA, aL_sM, Bstatement_0, Bstatement_14, Bstatement_37, Bstatement_47, Bstatement_51, Bstatement_52, Bstatement_53, Bstatement_63, Bstatement_75, Bstatement_108, Bstatement_115, Bstatement_126, Bstatement_130, Bstatement_131, Bstatement_132, Bstatement_142, Bstatement_147, Bstatement_220, Bstatement_225, Bstatement_230, Bstatement_235, Bstatement_240, Bstatement_245, Bstatement_250, Bstatement_255, Bstatement_260, oi_0, oi_1, oi_123, oi_20, oi_4, oi_41, oi_58, oi_7]; try dsimp only
              have hcw : codY z.1 = 58 := (SR.sh hR).wd (x := 8) (by decide) |>.mp ⟨by lia, Int32.toInt_inj.mp h110⟩
              refine ⟨trivial, fun w112 τ112 hq112 => ?_⟩
              obtain ⟨hq112, hL112⟩ := hq112
              have hq112 : StZ N τ112 _ w112 := hq112 N z n F ⟨(by repeat (first | exact hR | refine SR.i ?_ rfl | refine SR.a ?_ rfl)), (by repeat (first | exact hg | refine FgR.i ?_ rfl | refine FgR.a ?_ rfl)), (by (try simp only [frR_i, frR_a, ne_eq, Nat.reduceEqDiff, not_false_eq_true]); exact hne), (by repeat (first | exact hZ | refine BZ.i ?_ rfl | refine BZ.a ?_ rfl)), (by repeat (first | exact hK | refine KtR.i ?_ | refine KtR.a ?_ (by decide))), hw, hu, ha1, (by omega)⟩
              have hv112 : w112 = some (.int 0) ∨ w112 = some (.int 1) := hq112.imp (fun q => q.1) (fun q => q.1)
              rcases hv112 with rfl | rfl
              · dsimp only [Option.toList, List.cons_append, List.nil_append, Nat.beq, gI_sI, gI_sL, gI_sA, gI_sM, gL_sI, gL_sL, gL_sA, gL_sM, aI_sI, aI_sL, aI_sA, aI_sM, aL_sI, aL_sL, aL_sA, aL_sM]
                unfold Qv_statementZ
                try dsimp only
                exact hq112
              · dsimp only [Option.toList, List.cons_append, List.nil_append, Nat.beq, gI_sI, gI_sL, gI_sA, gI_sM, gL_sI, gL_sL, gL_sA, gL_sM, aI_sI, aI_sL, aI_sA, aI_sM, aL_sI, aL_sL, aL_sA, aL_sM]
                unfold Qv_statementZ
                try dsimp only
                exact hq112
            refine ⟨fun h113 => ?_, fun h113 => ?_⟩
            · refine hB _ _ _ _ _ (fun m114 hm114 => ?_)
              dsimp only [ugo, uwp, ust, uct, rfd, Bstatement, Nat.beq, lv_args, rlk, rs1, rs2, rdl, rky, rcd, rno, rsw, Value.category, List.filter, List.take, List.drop, List.reverse, List.reverseAux, List.cons_append, List.nil_append, Option.toList, Int.toNat, Int.reduceToNat, if_pos, if_neg, reduceIte, ↓reduceIte, Nat.reduceAdd, Nat.reduceEqDiff, Nat.reduceBEq, beq_self_eq_true, Bool.not_true, Bool.not_false, Bool.and_true, Bool.and_false, Bool.true_and, Bool.false_and, gI_sI, gI_sL, gI_sA, gI_sM, gL_sI, gL_sL, gL_sA, gL_sM, aI_sI, aI_sL, aI_sA, aI_sM, aL_sI, aL_sL, aL_sA, aL_sM, Bstatement_0, Bstatement_14, Bstatement_37, Bstatement_47, Bstatement_51, Bstatement_52, Bstatement_53, Bstatement_63, Bstatement_75, Bstatement_108, Bstatement_115, Bstatement_126, Bstatement_130, Bstatement_131, Bstatement_132, Bstatement_142, Bstatement_147, Bstatement_220, Bstatement_225, Bstatement_230, Bstatement_235, Bstatement_240, Bstatement_245, Bstatement_250, Bstatement_255, Bstatement_260, oi_0, oi_1, oi_123, oi_20, oi_4, oi_41, oi_58, oi_7]; try dsimp only
              have hcw : codY z.1 = 60 := (SR.sh hR).wd (x := 9) (by decide) |>.mp ⟨by lia, Int32.toInt_inj.mp h113⟩
              refine ⟨trivial, fun w115 τ115 hq115 => ?_⟩
              obtain ⟨hq115, hL115⟩ := hq115
              have hq115 : StZ N τ115 _ w115 := hq115 N z n F ⟨(by repeat (first | exact hR | refine SR.i ?_ rfl | refine SR.a ?_ rfl)), (by repeat (first | exact hg | refine FgR.i ?_ rfl | refine FgR.a ?_ rfl)), (by (try simp only [frR_i, frR_a, ne_eq, Nat.reduceEqDiff, not_false_eq_true]); exact hne), (by repeat (first | exact hZ | refine BZ.i ?_ rfl | refine BZ.a ?_ rfl)), (by repeat (first | exact hK | refine KtR.i ?_ | refine KtR.a ?_ (by decide))), hw, hu, ha1, (by omega)⟩
              have hv115 : w115 = some (.int 0) ∨ w115 = some (.int 1) := hq115.imp (fun q => q.1) (fun q => q.1)
              rcases hv115 with rfl | rfl
              · dsimp only [Option.toList, List.cons_append, List.nil_append, Nat.beq, gI_sI, gI_sL, gI_sA, gI_sM, gL_sI, gL_sL, gL_sA, gL_sM, aI_sI, aI_sL, aI_sA, aI_sM, aL_sI, aL_sL, aL_sA, aL_sM]
                unfold Qv_statementZ
                try dsimp only
                exact hq115
              · dsimp only [Option.toList, List.cons_append, List.nil_append, Nat.beq, gI_sI, gI_sL, gI_sA, gI_sM, gL_sI, gL_sL, gL_sA, gL_sM, aI_sI, aI_sL, aI_sA, aI_sM, aL_sI, aL_sL, aL_sA, aL_sM]
                unfold Qv_statementZ
                try dsimp only
                exact hq115
            refine ⟨fun h116 => ?_, fun h116 => ?_⟩
            · refine hB _ _ _ _ _ (fun m117 hm117 => ?_)
              dsimp only [ugo, uwp, ust, uct, rfd, Bstatement, Nat.beq, lv_args, rlk, rs1, rs2, rdl, rky, rcd, rno, rsw, Value.category, List.filter, List.take, List.drop, List.reverse, List.reverseAux, List.cons_append, List.nil_append, Option.toList, Int.toNat, Int.reduceToNat, if_pos, if_neg, reduceIte, ↓reduceIte, Nat.reduceAdd, Nat.reduceEqDiff, Nat.reduceBEq, beq_self_eq_true, Bool.not_true, Bool.not_false, Bool.and_true, Bool.and_false, Bool.true_and, Bool.false_and, gI_sI, gI_sL, gI_sA, gI_sM, gL_sI, gL_sL, gL_sA, gL_sM, aI_sI, aI_sL, aI_sA, aI_sM, aL_sI, aL_sL, aL_sA, aL_sM, Bstatement_0, Bstatement_14, Bstatement_37, Bstatement_47, Bstatement_51, Bstatement_52, Bstatement_53, Bstatement_63, Bstatement_75, Bstatement_108, Bstatement_115, Bstatement_126, Bstatement_130, Bstatement_131, Bstatement_132, Bstatement_142, Bstatement_147, Bstatement_220, Bstatement_225, Bstatement_230, Bstatement_235, Bstatement_240, Bstatement_245, Bstatement_250, Bstatement_255, Bstatement_260, oi_0, oi_1, oi_123, oi_20, oi_4, oi_41, oi_58, oi_7]; try dsimp only
              have hcw : codY z.1 = 59 := (SR.sh hR).wd (x := 10) (by decide) |>.mp ⟨by lia, Int32.toInt_inj.mp h116⟩
              refine ⟨trivial, fun w118 τ118 hq118 => ?_⟩
              obtain ⟨hq118, hL118⟩ := hq118
              have hq118 : StZ N τ118 _ w118 := hq118 N z n F ⟨(by repeat (first | exact hR | refine SR.i ?_ rfl | refine SR.a ?_ rfl)), (by repeat (first | exact hg | refine FgR.i ?_ rfl | refine FgR.a ?_ rfl)), (by (try simp only [frR_i, frR_a, ne_eq, Nat.reduceEqDiff, not_false_eq_true]); exact hne), (by repeat (first | exact hZ | refine BZ.i ?_ rfl | refine BZ.a ?_ rfl)), (by repeat (first | exact hK | refine KtR.i ?_ | refine KtR.a ?_ (by decide))), hw, hu, ha1, (by omega)⟩
              have hv118 : w118 = some (.int 0) ∨ w118 = some (.int 1) := hq118.imp (fun q => q.1) (fun q => q.1)
              rcases hv118 with rfl | rfl
              · dsimp only [Option.toList, List.cons_append, List.nil_append, Nat.beq, gI_sI, gI_sL, gI_sA, gI_sM, gL_sI, gL_sL, gL_sA, gL_sM, aI_sI, aI_sL, aI_sA, aI_sM, aL_sI, aL_sL, aL_sA, aL_sM]
                unfold Qv_statementZ
                try dsimp only
                exact hq118
              · dsimp only [Option.toList, List.cons_append, List.nil_append, Nat.beq, gI_sI, gI_sL, gI_sA, gI_sM, gL_sI, gL_sL, gL_sA, gL_sM, aI_sI, aI_sL, aI_sA, aI_sM, aL_sI, aL_sL, aL_sA, aL_sM]
                unfold Qv_statementZ
                try dsimp only
                exact hq118
            refine ⟨fun h119 => ?_, fun h119 => ?_⟩
            · refine hB _ _ _ _ _ (fun m120 hm120 => ?_)
              dsimp only [ugo, uwp, ust, uct, rfd, Bstatement, Nat.beq, lv_args, rlk, rs1, rs2, rdl, rky, rcd, rno, rsw, Value.category, List.filter, List.take, List.drop, List.reverse, List.reverseAux, List.cons_append, List.nil_append, Option.toList, Int.toNat, Int.reduceToNat, if_pos, if_neg, reduceIte, ↓reduceIte, Nat.reduceAdd, Nat.reduceEqDiff, Nat.reduceBEq, beq_self_eq_true, Bool.not_true, Bool.not_false, Bool.and_true, Bool.and_false, Bool.true_and, Bool.false_and, gI_sI, gI_sL, gI_sA, gI_sM, gL_sI, gL_sL, gL_sA, gL_sM, aI_sI, aI_sL, aI_sA, aI_sM, aL_sI, aL_sL, aL_sA, aL_sM, Bstatement_0, Bstatement_14, Bstatement_37, Bstatement_47, Bstatement_51, Bstatement_52, Bstatement_53, Bstatement_63, Bstatement_75, Bstatement_108, Bstatement_115, Bstatement_126, Bstatement_130, Bstatement_131, Bstatement_132, Bstatement_142, Bstatement_147, Bstatement_220, Bstatement_225, Bstatement_230, Bstatement_235, Bstatement_240, Bstatement_245, Bstatement_250, Bstatement_255, Bstatement_260, oi_0, oi_1, oi_123, oi_20, oi_4, oi_41, oi_58, oi_7]; try dsimp only
              have hcw : codY z.1 = 61 := (SR.sh hR).wd (x := 11) (by decide) |>.mp ⟨by lia, Int32.toInt_inj.mp h119⟩
              refine ⟨trivial, fun w121 τ121 hq121 => ?_⟩
              obtain ⟨hq121, hL121⟩ := hq121
              have hq121 : StZ N τ121 _ w121 := hq121 N z n F ⟨(by repeat (first | exact hR | refine SR.i ?_ rfl | refine SR.a ?_ rfl)), (by repeat (first | exact hg | refine FgR.i ?_ rfl | refine FgR.a ?_ rfl)), (by (try simp only [frR_i, frR_a, ne_eq, Nat.reduceEqDiff, not_false_eq_true]); exact hne), (by repeat (first | exact hZ | refine BZ.i ?_ rfl | refine BZ.a ?_ rfl)), (by repeat (first | exact hK | refine KtR.i ?_ | refine KtR.a ?_ (by decide))), hw, hu, ha1, (by omega)⟩
              have hv121 : w121 = some (.int 0) ∨ w121 = some (.int 1) := hq121.imp (fun q => q.1) (fun q => q.1)
              rcases hv121 with rfl | rfl
              · dsimp only [Option.toList, List.cons_append, List.nil_append, Nat.beq, gI_sI, gI_sL, gI_sA, gI_sM, gL_sI, gL_sL, gL_sA, gL_sM, aI_sI, aI_sL, aI_sA, aI_sM, aL_sI, aL_sL, aL_sA, aL_sM]
                unfold Qv_statementZ
                try dsimp only
                exact hq121
              · dsimp only [Option.toList, List.cons_append, List.nil_append, Nat.beq, gI_sI, gI_sL, gI_sA, gI_sM, gL_sI, gL_sL, gL_sA, gL_sM, aI_sI, aI_sL, aI_sA, aI_sM, aL_sI, aL_sL, aL_sA, aL_sM]
                unfold Qv_statementZ
                try dsimp only
                exact hq121
            refine ⟨fun h122 => ?_, fun h122 => ?_⟩
            · refine hB _ _ _ _ _ (fun m123 hm123 => ?_)
              dsimp only [ugo, uwp, ust, uct, rfd, Bstatement, Nat.beq, lv_args, rlk, rs1, rs2, rdl, rky, rcd, rno, rsw, Value.category, List.filter, List.take, List.drop, List.reverse, List.reverseAux, List.cons_append, List.nil_append, Option.toList, Int.toNat, Int.reduceToNat, if_pos, if_neg, reduceIte, ↓reduceIte, Nat.reduceAdd, Nat.reduceEqDiff, Nat.reduceBEq, beq_self_eq_true, Bool.not_true, Bool.not_false, Bool.and_true, Bool.and_false, Bool.true_and, Bool.false_and, gI_sI, gI_sL, gI_sA, gI_sM, gL_sI, gL_sL, gL_sA, gL_sM, aI_sI, aI_sL, aI_sA, aI_sM, aL_sI, aL_sL, aL_sA, aL_sM, Bstatement_0, Bstatement_14, Bstatement_37, Bstatement_47, Bstatement_51, Bstatement_52, Bstatement_53, Bstatement_63, Bstatement_75, Bstatement_108, Bstatement_115, Bstatement_126, Bstatement_130, Bstatement_131, Bstatement_132, Bstatement_142, Bstatement_147, Bstatement_220, Bstatement_225, Bstatement_230, Bstatement_235, Bstatement_240, Bstatement_245, Bstatement_250, Bstatement_255, Bstatement_260, oi_0, oi_1, oi_123, oi_20, oi_4, oi_41, oi_58, oi_7]; try dsimp only
              have h6n : ¬ (codY z.1 = 80 ∧ cobY z.1 = 6) := fun q => (by by_cases hz : zAt z.1 < 500; exact hk73 ⟨((SR.sh hR).nx q.1 hz).1, by have e := (tk_sg (a := 58) (d := 6) ((SR.sh hR).nx q.1 hz).2 (by decide)).mpr q.2; exact Int32.toInt_inj.mp e.1, by have e := (tk_sg (a := 58) (d := 6) ((SR.sh hR).nx q.1 hz).2 (by decide)).mpr q.2; exact Int32.toInt_inj.mp e.2⟩; have := cob_l hz; omega)
              have hcw : codY z.1 = 62 := (SR.sh hR).wd (x := 12) (by decide) |>.mp ⟨by lia, Int32.toInt_inj.mp h122⟩
              refine ⟨trivial, fun w124 τ124 hq124 => ?_⟩
              obtain ⟨hq124, hL124⟩ := hq124
              have hq124 : StZ N τ124 _ w124 := hq124 N z n F ⟨(by repeat (first | exact hR | refine SR.i ?_ rfl | refine SR.a ?_ rfl)), (by repeat (first | exact hg | refine FgR.i ?_ rfl | refine FgR.a ?_ rfl)), (by (try simp only [frR_i, frR_a, ne_eq, Nat.reduceEqDiff, not_false_eq_true]); exact hne), (by repeat (first | exact hZ | refine BZ.i ?_ rfl | refine BZ.a ?_ rfl)), (by repeat (first | exact hK | refine KtR.i ?_ | refine KtR.a ?_ (by decide))), hw, hu, ha1, (by refine ⟨?_, ?_, ?_, ?_, ?_, ?_, ?_, ?_, ?_, ?_, ?_, h6n⟩ <;> omega)⟩
              have hv124 : w124 = some (.int 0) ∨ w124 = some (.int 1) := hq124.imp (fun q => q.1) (fun q => q.1)
              rcases hv124 with rfl | rfl
              · dsimp only [Option.toList, List.cons_append, List.nil_append, Nat.beq, gI_sI, gI_sL, gI_sA, gI_sM, gL_sI, gL_sL, gL_sA, gL_sM, aI_sI, aI_sL, aI_sA, aI_sM, aL_sI, aL_sL, aL_sA, aL_sM]
                unfold Qv_statementZ
                try dsimp only
                exact hq124
              · dsimp only [Option.toList, List.cons_append, List.nil_append, Nat.beq, gI_sI, gI_sL, gI_sA, gI_sM, gL_sI, gL_sL, gL_sA, gL_sM, aI_sI, aI_sL, aI_sA, aI_sM, aL_sI, aL_sL, aL_sA, aL_sM]
                unfold Qv_statementZ
                try dsimp only
                exact hq124
            refine ⟨fun h125 => ?_, fun h125 => ?_⟩
            · refine hB _ _ _ _ _ (fun m126 hm126 => ?_)
              dsimp only [ugo, uwp, ust, uct, rfd, Bstatement, Nat.beq, lv_args, rlk, rs1, rs2, rdl, rky, rcd, rno, rsw, Value.category, List.filter, List.take, List.drop, List.reverse, List.reverseAux, List.cons_append, List.nil_append, Option.toList, Int.toNat, Int.reduceToNat, if_pos, if_neg, reduceIte, ↓reduceIte, Nat.reduceAdd, Nat.reduceEqDiff, Nat.reduceBEq, beq_self_eq_true, Bool.not_true, Bool.not_false, Bool.and_true, Bool.and_false, Bool.true_and, Bool.false_and, gI_sI, gI_sL, gI_sA, gI_sM, gL_sI, gL_sL, gL_sA, gL_sM, aI_sI, aI_sL, aI_sA, aI_sM, aL_sI, aL_sL, aL_sA, aL_sM, Bstatement_0, Bstatement_14, Bstatement_37, Bstatement_47, Bstatement_51, Bstatement_52, Bstatement_53, Bstatement_63, Bstatement_75, Bstatement_108, Bstatement_115, Bstatement_126, Bstatement_130, Bstatement_131, Bstatement_132, Bstatement_142, Bstatement_147, Bstatement_220, Bstatement_225, Bstatement_230, Bstatement_235, Bstatement_240, Bstatement_245, Bstatement_250, Bstatement_255, Bstatement_260, oi_0, oi_1, oi_123, oi_20, oi_4, oi_41, oi_58, oi_7]; try dsimp only
              have h6n : ¬ (codY z.1 = 80 ∧ cobY z.1 = 6) := fun q => (by by_cases hz : zAt z.1 < 500; exact hk73 ⟨((SR.sh hR).nx q.1 hz).1, by have e := (tk_sg (a := 58) (d := 6) ((SR.sh hR).nx q.1 hz).2 (by decide)).mpr q.2; exact Int32.toInt_inj.mp e.1, by have e := (tk_sg (a := 58) (d := 6) ((SR.sh hR).nx q.1 hz).2 (by decide)).mpr q.2; exact Int32.toInt_inj.mp e.2⟩; have := cob_l hz; omega)
              have hcw : codY z.1 = 63 := (SR.sh hR).wd (x := 13) (by decide) |>.mp ⟨by lia, Int32.toInt_inj.mp h125⟩
              refine ⟨trivial, fun w127 τ127 hq127 => ?_⟩
              obtain ⟨hq127, hL127⟩ := hq127
              have hq127 : StZ N τ127 _ w127 := hq127 N z n F ⟨(by repeat (first | exact hR | refine SR.i ?_ rfl | refine SR.a ?_ rfl)), (by repeat (first | exact hg | refine FgR.i ?_ rfl | refine FgR.a ?_ rfl)), (by (try simp only [frR_i, frR_a, ne_eq, Nat.reduceEqDiff, not_false_eq_true]); exact hne), (by repeat (first | exact hZ | refine BZ.i ?_ rfl | refine BZ.a ?_ rfl)), (by repeat (first | exact hK | refine KtR.i ?_ | refine KtR.a ?_ (by decide))), hw, hu, ha1, (by refine ⟨?_, ?_, ?_, ?_, ?_, ?_, ?_, ?_, ?_, ?_, ?_, h6n⟩ <;> omega)⟩
              have hv127 : w127 = some (.int 0) ∨ w127 = some (.int 1) := hq127.imp (fun q => q.1) (fun q => q.1)
              rcases hv127 with rfl | rfl
              · dsimp only [Option.toList, List.cons_append, List.nil_append, Nat.beq, gI_sI, gI_sL, gI_sA, gI_sM, gL_sI, gL_sL, gL_sA, gL_sM, aI_sI, aI_sL, aI_sA, aI_sM, aL_sI, aL_sL, aL_sA, aL_sM]
                unfold Qv_statementZ
                try dsimp only
                exact hq127
              · dsimp only [Option.toList, List.cons_append, List.nil_append, Nat.beq, gI_sI, gI_sL, gI_sA, gI_sM, gL_sI, gL_sL, gL_sA, gL_sM, aI_sI, aI_sL, aI_sA, aI_sM, aL_sI, aL_sL, aL_sA, aL_sM]
                unfold Qv_statementZ
                try dsimp only
                exact hq127
            refine ⟨fun h128 => ?_, fun h128 => ?_⟩
            · refine hB _ _ _ _ _ (fun m129 hm129 => ?_)
              dsimp only [ugo, uwp, ust, uct, rfd, Bstatement, Nat.beq, lv_args, rlk, rs1, rs2, rdl, rky, rcd, rno, rsw, Value.category, List.filter, List.take, List.drop, List.reverse, List.reverseAux, List.cons_append, List.nil_append, Option.toList, Int.toNat, Int.reduceToNat, if_pos, if_neg, reduceIte, ↓reduceIte, Nat.reduceAdd, Nat.reduceEqDiff, Nat.reduceBEq, beq_self_eq_true, Bool.not_true, Bool.not_false, Bool.and_true, Bool.and_false, Bool.true_and, Bool.false_and, gI_sI, gI_sL, gI_sA, gI_sM, gL_sI, gL_sL, gL_sA, gL_sM, aI_sI, aI_sL, aI_sA, aI_sM, aL_sI, aL_sL, aL_sA, aL_sM, Bstatement_0, Bstatement_14, Bstatement_37, Bstatement_47, Bstatement_51, Bstatement_52, Bstatement_53, Bstatement_63, Bstatement_75, Bstatement_108, Bstatement_115, Bstatement_126, Bstatement_130, Bstatement_131, Bstatement_132, Bstatement_142, Bstatement_147, Bstatement_220, Bstatement_225, Bstatement_230, Bstatement_235, Bstatement_240, Bstatement_245, Bstatement_250, Bstatement_255, Bstatement_260, oi_0, oi_1, oi_123, oi_20, oi_4, oi_41, oi_58, oi_7]; try dsimp only
              have hcw : codY z.1 = 64 := (SR.sh hR).wd (x := 14) (by decide) |>.mp ⟨by lia, Int32.toInt_inj.mp h128⟩
              refine ⟨trivial, fun w130 τ130 hq130 => ?_⟩
              obtain ⟨hq130, hL130⟩ := hq130
              have hq130 : StZ N τ130 _ w130 := hq130 N z n F ⟨(by repeat (first | exact hR | refine SR.i ?_ rfl | refine SR.a ?_ rfl)), (by repeat (first | exact hg | refine FgR.i ?_ rfl | refine FgR.a ?_ rfl)), (by (try simp only [frR_i, frR_a, ne_eq, Nat.reduceEqDiff, not_false_eq_true]); exact hne), (by repeat (first | exact hZ | refine BZ.i ?_ rfl | refine BZ.a ?_ rfl)), (by repeat (first | exact hK | refine KtR.i ?_ | refine KtR.a ?_ (by decide))), hw, hu, ha1, (by omega)⟩
              have hv130 : w130 = some (.int 0) ∨ w130 = some (.int 1) := hq130.imp (fun q => q.1) (fun q => q.1)
              rcases hv130 with rfl | rfl
              · dsimp only [Option.toList, List.cons_append, List.nil_append, Nat.beq, gI_sI, gI_sL, gI_sA, gI_sM, gL_sI, gL_sL, gL_sA, gL_sM, aI_sI, aI_sL, aI_sA, aI_sM, aL_sI, aL_sL, aL_sA, aL_sM]
                unfold Qv_statementZ
                try dsimp only
                exact hq130
              · dsimp only [Option.toList, List.cons_append, List.nil_append, Nat.beq, gI_sI, gI_sL, gI_sA, gI_sM, gL_sI, gL_sL, gL_sA, gL_sM, aI_sI, aI_sL, aI_sA, aI_sM, aL_sI, aL_sL, aL_sA, aL_sM]
                unfold Qv_statementZ
                try dsimp only
                exact hq130
            refine ⟨fun h131 => ?_, fun h131 => ?_⟩
            · refine hB _ _ _ _ _ (fun m132 hm132 => ?_)
              dsimp only [ugo, uwp, ust, uct, rfd, Bstatement, Nat.beq, lv_args, rlk, rs1, rs2, rdl, rky, rcd, rno, rsw, Value.category, List.filter, List.take, List.drop, List.reverse, List.reverseAux, List.cons_append, List.nil_append, Option.toList, Int.toNat, Int.reduceToNat, if_pos, if_neg, reduceIte, ↓reduceIte, Nat.reduceAdd, Nat.reduceEqDiff, Nat.reduceBEq, beq_self_eq_true, Bool.not_true, Bool.not_false, Bool.and_true, Bool.and_false, Bool.true_and, Bool.false_and, gI_sI, gI_sL, gI_sA, gI_sM, gL_sI, gL_sL, gL_sA, gL_sM, aI_sI, aI_sL, aI_sA, aI_sM, aL_sI, aL_sL, aL_sA, aL_sM, Bstatement_0, Bstatement_14, Bstatement_37, Bstatement_47, Bstatement_51, Bstatement_52, Bstatement_53, Bstatement_63, Bstatement_75, Bstatement_108, Bstatement_115, Bstatement_126, Bstatement_130, Bstatement_131, Bstatement_132, Bstatement_142, Bstatement_147, Bstatement_220, Bstatement_225, Bstatement_230, Bstatement_235, Bstatement_240, Bstatement_245, Bstatement_250, Bstatement_255, Bstatement_260, oi_0, oi_1, oi_123, oi_20, oi_4, oi_41, oi_58, oi_7]; try dsimp only
              have hcw : codY z.1 = 65 := (SR.sh hR).wd (x := 15) (by decide) |>.mp ⟨by lia, Int32.toInt_inj.mp h131⟩
              refine ⟨trivial, fun w133 τ133 hq133 => ?_⟩
              obtain ⟨hq133, hL133⟩ := hq133
              have hq133 : StZ N τ133 _ w133 := hq133 N z n F ⟨(by repeat (first | exact hR | refine SR.i ?_ rfl | refine SR.a ?_ rfl)), (by repeat (first | exact hg | refine FgR.i ?_ rfl | refine FgR.a ?_ rfl)), (by (try simp only [frR_i, frR_a, ne_eq, Nat.reduceEqDiff, not_false_eq_true]); exact hne), (by repeat (first | exact hZ | refine BZ.i ?_ rfl | refine BZ.a ?_ rfl)), (by repeat (first | exact hK | refine KtR.i ?_ | refine KtR.a ?_ (by decide))), hw, hu, ha1, (by omega)⟩
              have hv133 : w133 = some (.int 0) ∨ w133 = some (.int 1) := hq133.imp (fun q => q.1) (fun q => q.1)
              rcases hv133 with rfl | rfl
              · dsimp only [Option.toList, List.cons_append, List.nil_append, Nat.beq, gI_sI, gI_sL, gI_sA, gI_sM, gL_sI, gL_sL, gL_sA, gL_sM, aI_sI, aI_sL, aI_sA, aI_sM, aL_sI, aL_sL, aL_sA, aL_sM]
                unfold Qv_statementZ
                try dsimp only
                exact hq133
              · dsimp only [Option.toList, List.cons_append, List.nil_append, Nat.beq, gI_sI, gI_sL, gI_sA, gI_sM, gL_sI, gL_sL, gL_sA, gL_sM, aI_sI, aI_sL, aI_sA, aI_sM, aL_sI, aL_sL, aL_sA, aL_sM]
                unfold Qv_statementZ
                try dsimp only
                exact hq133
            refine ⟨fun h134 => ?_, fun h134 => ?_⟩
            · refine hB _ _ _ _ _ (fun m135 hm135 => ?_)
              dsimp only [ugo, uwp, ust, uct, rfd, Bstatement, Nat.beq, lv_args, rlk, rs1, rs2, rdl, rky, rcd, rno, rsw, Value.category, List.filter, List.take, List.drop, List.reverse, List.reverseAux, List.cons_append, List.nil_append, Option.toList, Int.toNat, Int.reduceToNat, if_pos, if_neg, reduceIte, ↓reduceIte, Nat.reduceAdd, Nat.reduceEqDiff, Nat.reduceBEq, beq_self_eq_true, Bool.not_true, Bool.not_false, Bool.and_true, Bool.and_false, Bool.true_and, Bool.false_and, gI_sI, gI_sL, gI_sA, gI_sM, gL_sI, gL_sL, gL_sA, gL_sM, aI_sI, aI_sL, aI_sA, aI_sM, aL_sI, aL_sL, aL_sA, aL_sM, Bstatement_0, Bstatement_14, Bstatement_37, Bstatement_47, Bstatement_51, Bstatement_52, Bstatement_53, Bstatement_63, Bstatement_75, Bstatement_108, Bstatement_115, Bstatement_126, Bstatement_130, Bstatement_131, Bstatement_132, Bstatement_142, Bstatement_147, Bstatement_220, Bstatement_225, Bstatement_230, Bstatement_235, Bstatement_240, Bstatement_245, Bstatement_250, Bstatement_255, Bstatement_260, oi_0, oi_1, oi_123, oi_20, oi_4, oi_41, oi_58, oi_7]; try dsimp only
              have hcw : codY z.1 = 66 := (SR.sh hR).wd (x := 16) (by decide) |>.mp ⟨by lia, Int32.toInt_inj.mp h134⟩
              refine ⟨trivial, fun w136 τ136 hq136 => ?_⟩
              obtain ⟨hq136, hL136⟩ := hq136
              have hq136 : StZ N τ136 _ w136 := hq136 N z n F ⟨(by repeat (first | exact hR | refine SR.i ?_ rfl | refine SR.a ?_ rfl)), (by repeat (first | exact hg | refine FgR.i ?_ rfl | refine FgR.a ?_ rfl)), (by (try simp only [frR_i, frR_a, ne_eq, Nat.reduceEqDiff, not_false_eq_true]); exact hne), (by repeat (first | exact hZ | refine BZ.i ?_ rfl | refine BZ.a ?_ rfl)), (by repeat (first | exact hK | refine KtR.i ?_ | refine KtR.a ?_ (by decide))), hw, hu, ha1, (by omega)⟩
              have hv136 : w136 = some (.int 0) ∨ w136 = some (.int 1) := hq136.imp (fun q => q.1) (fun q => q.1)
              rcases hv136 with rfl | rfl
              · dsimp only [Option.toList, List.cons_append, List.nil_append, Nat.beq, gI_sI, gI_sL, gI_sA, gI_sM, gL_sI, gL_sL, gL_sA, gL_sM, aI_sI, aI_sL, aI_sA, aI_sM, aL_sI, aL_sL, aL_sA, aL_sM]
                unfold Qv_statementZ
                try dsimp only
                exact hq136
              · dsimp only [Option.toList, List.cons_append, List.nil_append, Nat.beq, gI_sI, gI_sL, gI_sA, gI_sM, gL_sI, gL_sL, gL_sA, gL_sM, aI_sI, aI_sL, aI_sA, aI_sM, aL_sI, aL_sL, aL_sA, aL_sM]
                unfold Qv_statementZ
                try dsimp only
                exact hq136
            refine ⟨fun h137 => ?_, fun h137 => ?_⟩
            · refine hB _ _ _ _ _ (fun m138 hm138 => ?_)
              dsimp only [ugo, uwp, ust, uct, rfd, Bstatement, Nat.beq, lv_args, rlk, rs1, rs2, rdl, rky, rcd, rno, rsw, Value.category, List.filter, List.take, List.drop, List.reverse, List.reverseAux, List.cons_append, List.nil_append, Option.toList, Int.toNat, Int.reduceToNat, if_pos, if_neg, reduceIte, ↓reduceIte, Nat.reduceAdd, Nat.reduceEqDiff, Nat.reduceBEq, beq_self_eq_true, Bool.not_true, Bool.not_false, Bool.and_true, Bool.and_false, Bool.true_and, Bool.false_and, gI_sI, gI_sL, gI_sA, gI_sM, gL_sI, gL_sL, gL_sA, gL_sM, aI_sI, aI_sL, aI_sA, aI_sM, aL_sI, aL_sL, aL_sA, aL_sM, Bstatement_0, Bstatement_14, Bstatement_37, Bstatement_47, Bstatement_51, Bstatement_52, Bstatement_53, Bstatement_63, Bstatement_75, Bstatement_108, Bstatement_115, Bstatement_126, Bstatement_130, Bstatement_131, Bstatement_132, Bstatement_142, Bstatement_147, Bstatement_220, Bstatement_225, Bstatement_230, Bstatement_235, Bstatement_240, Bstatement_245, Bstatement_250, Bstatement_255, Bstatement_260, oi_0, oi_1, oi_123, oi_20, oi_4, oi_41, oi_58, oi_7]; try dsimp only
              have hcw : codY z.1 = 67 := (SR.sh hR).wd (x := 17) (by decide) |>.mp ⟨by lia, Int32.toInt_inj.mp h137⟩
              refine ⟨trivial, fun w139 τ139 hq139 => ?_⟩
              obtain ⟨hq139, hL139⟩ := hq139
              have hq139 : StZ N τ139 _ w139 := hq139 N z n F ⟨(by repeat (first | exact hR | refine SR.i ?_ rfl | refine SR.a ?_ rfl)), (by repeat (first | exact hg | refine FgR.i ?_ rfl | refine FgR.a ?_ rfl)), (by (try simp only [frR_i, frR_a, ne_eq, Nat.reduceEqDiff, not_false_eq_true]); exact hne), (by repeat (first | exact hZ | refine BZ.i ?_ rfl | refine BZ.a ?_ rfl)), (by repeat (first | exact hK | refine KtR.i ?_ | refine KtR.a ?_ (by decide))), hw, hu, ha1, (by omega)⟩
              have hv139 : w139 = some (.int 0) ∨ w139 = some (.int 1) := hq139.imp (fun q => q.1) (fun q => q.1)
              rcases hv139 with rfl | rfl
              · dsimp only [Option.toList, List.cons_append, List.nil_append, Nat.beq, gI_sI, gI_sL, gI_sA, gI_sM, gL_sI, gL_sL, gL_sA, gL_sM, aI_sI, aI_sL, aI_sA, aI_sM, aL_sI, aL_sL, aL_sA, aL_sM]
                unfold Qv_statementZ
                try dsimp only
                exact hq139
              · dsimp only [Option.toList, List.cons_append, List.nil_append, Nat.beq, gI_sI, gI_sL, gI_sA, gI_sM, gL_sI, gL_sL, gL_sA, gL_sM, aI_sI, aI_sL, aI_sA, aI_sM, aL_sI, aL_sL, aL_sA, aL_sM]
                unfold Qv_statementZ
                try dsimp only
                exact hq139
            refine ⟨fun h140 => ?_, fun h140 => ?_⟩
            · refine hB _ _ _ _ _ (fun m141 hm141 => ?_)
              dsimp only [ugo, uwp, ust, uct, rfd, Bstatement, Nat.beq, lv_args, rlk, rs1, rs2, rdl, rky, rcd, rno, rsw, Value.category, List.filter, List.take, List.drop, List.reverse, List.reverseAux, List.cons_append, List.nil_append, Option.toList, Int.toNat, Int.reduceToNat, if_pos, if_neg, reduceIte, ↓reduceIte, Nat.reduceAdd, Nat.reduceEqDiff, Nat.reduceBEq, beq_self_eq_true, Bool.not_true, Bool.not_false, Bool.and_true, Bool.and_false, Bool.true_and, Bool.false_and, gI_sI, gI_sL, gI_sA, gI_sM, gL_sI, gL_sL, gL_sA, gL_sM, aI_sI, aI_sL, aI_sA, aI_sM, aL_sI, aL_sL, aL_sA, aL_sM, Bstatement_0, Bstatement_14, Bstatement_37, Bstatement_47, Bstatement_51, Bstatement_52, Bstatement_53, Bstatement_63, Bstatement_75, Bstatement_108, Bstatement_115, Bstatement_126, Bstatement_130, Bstatement_131, Bstatement_132, Bstatement_142, Bstatement_147, Bstatement_220, Bstatement_225, Bstatement_230, Bstatement_235, Bstatement_240, Bstatement_245, Bstatement_250, Bstatement_255, Bstatement_260, oi_0, oi_1, oi_123, oi_20, oi_4, oi_41, oi_58, oi_7]; try dsimp only
              have hcw : codY z.1 = 68 := (SR.sh hR).wd (x := 18) (by decide) |>.mp ⟨by lia, Int32.toInt_inj.mp h140⟩
              refine ⟨trivial, fun w142 τ142 hq142 => ?_⟩
              obtain ⟨hq142, hL142⟩ := hq142
              have hq142 : StZ N τ142 _ w142 := hq142 N z n F ⟨(by repeat (first | exact hR | refine SR.i ?_ rfl | refine SR.a ?_ rfl)), (by repeat (first | exact hg | refine FgR.i ?_ rfl | refine FgR.a ?_ rfl)), (by (try simp only [frR_i, frR_a, ne_eq, Nat.reduceEqDiff, not_false_eq_true]); exact hne), (by repeat (first | exact hZ | refine BZ.i ?_ rfl | refine BZ.a ?_ rfl)), (by repeat (first | exact hK | refine KtR.i ?_ | refine KtR.a ?_ (by decide))), hw, hu, ha1, (by omega)⟩
              have hv142 : w142 = some (.int 0) ∨ w142 = some (.int 1) := hq142.imp (fun q => q.1) (fun q => q.1)
              rcases hv142 with rfl | rfl
              · dsimp only [Option.toList, List.cons_append, List.nil_append, Nat.beq, gI_sI, gI_sL, gI_sA, gI_sM, gL_sI, gL_sL, gL_sA, gL_sM, aI_sI, aI_sL, aI_sA, aI_sM, aL_sI, aL_sL, aL_sA, aL_sM]
                unfold Qv_statementZ
                try dsimp only
                exact hq142
              · dsimp only [Option.toList, List.cons_append, List.nil_append, Nat.beq, gI_sI, gI_sL, gI_sA, gI_sM, gL_sI, gL_sL, gL_sA, gL_sM, aI_sI, aI_sL, aI_sA, aI_sM, aL_sI, aL_sL, aL_sA, aL_sM]
                unfold Qv_statementZ
                try dsimp only
                exact hq142
            refine hB _ _ _ _ _ (fun m143 hm143 => ?_)
            dsimp only [ugo, uwp, ust, uct, rfd, Bstatement, Nat.beq, lv_args, rlk, rs1, rs2, rdl, rky, rcd, rno, rsw, Value.category, List.filter, List.take, List.drop, List.reverse, List.reverseAux, List.cons_append, List.nil_append, Option.toList, Int.toNat, Int.reduceToNat, if_pos, if_neg, reduceIte, ↓reduceIte, Nat.reduceAdd, Nat.reduceEqDiff, Nat.reduceBEq, beq_self_eq_true, Bool.not_true, Bool.not_false, Bool.and_true, Bool.and_false, Bool.true_and, Bool.false_and, gI_sI, gI_sL, gI_sA, gI_sM, gL_sI, gL_sL, gL_sA, gL_sM, aI_sI, aI_sL, aI_sA, aI_sM, aL_sI, aL_sL, aL_sA, aL_sM, Bstatement_0, Bstatement_14, Bstatement_37, Bstatement_47, Bstatement_51, Bstatement_52, Bstatement_53, Bstatement_63, Bstatement_75, Bstatement_108, Bstatement_115, Bstatement_126, Bstatement_130, Bstatement_131, Bstatement_132, Bstatement_142, Bstatement_147, Bstatement_220, Bstatement_225, Bstatement_230, Bstatement_235, Bstatement_240, Bstatement_245, Bstatement_250, Bstatement_255, Bstatement_260, oi_0, oi_1, oi_123, oi_20, oi_4, oi_41, oi_58, oi_7]; try dsimp only
            have h6n : ¬ (codY z.1 = 80 ∧ cobY z.1 = 6) := fun q => (by by_cases hz : zAt z.1 < 500; exact hk73 ⟨((SR.sh hR).nx q.1 hz).1, by have e := (tk_sg (a := 58) (d := 6) ((SR.sh hR).nx q.1 hz).2 (by decide)).mpr q.2; exact Int32.toInt_inj.mp e.1, by have e := (tk_sg (a := 58) (d := 6) ((SR.sh hR).nx q.1 hz).2 (by decide)).mpr q.2; exact Int32.toInt_inj.mp e.2⟩; have := cob_l hz; omega)
            have hw6_ : ¬ codY z.1 = 56 := fun q => absurd (congrArg Int32.toInt ((SR.sh hR).wd (x := 6) (by decide) |>.mpr q).2) h104
            have hw7_ : ¬ codY z.1 = 57 := fun q => absurd (congrArg Int32.toInt ((SR.sh hR).wd (x := 7) (by decide) |>.mpr q).2) h107
            have hw8_ : ¬ codY z.1 = 58 := fun q => absurd (congrArg Int32.toInt ((SR.sh hR).wd (x := 8) (by decide) |>.mpr q).2) h110
            have hw9_ : ¬ codY z.1 = 60 := fun q => absurd (congrArg Int32.toInt ((SR.sh hR).wd (x := 9) (by decide) |>.mpr q).2) h113
            have hw10_ : ¬ codY z.1 = 59 := fun q => absurd (congrArg Int32.toInt ((SR.sh hR).wd (x := 10) (by decide) |>.mpr q).2) h116
            have hw11_ : ¬ codY z.1 = 61 := fun q => absurd (congrArg Int32.toInt ((SR.sh hR).wd (x := 11) (by decide) |>.mpr q).2) h119
            have hw12_ : ¬ codY z.1 = 62 := fun q => absurd (congrArg Int32.toInt ((SR.sh hR).wd (x := 12) (by decide) |>.mpr q).2) h122
            have hw13_ : ¬ codY z.1 = 63 := fun q => absurd (congrArg Int32.toInt ((SR.sh hR).wd (x := 13) (by decide) |>.mpr q).2) h125
            have hw14_ : ¬ codY z.1 = 64 := fun q => absurd (congrArg Int32.toInt ((SR.sh hR).wd (x := 14) (by decide) |>.mpr q).2) h128
            have hw15_ : ¬ codY z.1 = 65 := fun q => absurd (congrArg Int32.toInt ((SR.sh hR).wd (x := 15) (by decide) |>.mpr q).2) h131
            have hw16_ : ¬ codY z.1 = 66 := fun q => absurd (congrArg Int32.toInt ((SR.sh hR).wd (x := 16) (by decide) |>.mpr q).2) h134
            have hw17_ : ¬ codY z.1 = 67 := fun q => absurd (congrArg Int32.toInt ((SR.sh hR).wd (x := 17) (by decide) |>.mpr q).2) h137
            have hw18_ : ¬ codY z.1 = 68 := fun q => absurd (congrArg Int32.toInt ((SR.sh hR).wd (x := 18) (by decide) |>.mpr q).2) h140
            have hw4 : 50 ≤ codY z.1 := by have := (SR.sh hR).ki.2.2.2.2.2.1.mp (by lia); omega
            refine ⟨trivial, fun w144 τ144 hq144 => ?_⟩
            obtain ⟨hq144, hL144⟩ := hq144
            have hq144 : StZ N τ144 _ w144 := hq144 N z n F ⟨(by repeat (first | exact hR | refine SR.i ?_ rfl | refine SR.a ?_ rfl)), (by repeat (first | exact hg | refine FgR.i ?_ rfl | refine FgR.a ?_ rfl)), (by (try simp only [frR_i, frR_a, ne_eq, Nat.reduceEqDiff, not_false_eq_true]); exact hne), (by repeat (first | exact hZ | refine BZ.i ?_ rfl | refine BZ.a ?_ rfl)), (by repeat (first | exact hK | refine KtR.i ?_ | refine KtR.a ?_ (by decide))), hw, hu, ha1, (by refine ⟨?_, ?_, ?_, ?_, ?_, ?_, ?_, ?_, ?_, ?_, ?_, h6n⟩ <;> omega)⟩
            have hv144 : w144 = some (.int 0) ∨ w144 = some (.int 1) := hq144.imp (fun q => q.1) (fun q => q.1)
            rcases hv144 with rfl | rfl
            · dsimp only [Option.toList, List.cons_append, List.nil_append, Nat.beq, gI_sI, gI_sL, gI_sA, gI_sM, gL_sI, gL_sL, gL_sA, gL_sM, aI_sI, aI_sL, aI_sA, aI_sM, aL_sI, aL_sL, aL_sA, aL_sM]
              unfold Qv_statementZ
              try dsimp only
              exact hq144
            · dsimp only [Option.toList, List.cons_append, List.nil_append, Nat.beq, gI_sI, gI_sL, gI_sA, gI_sM, gL_sI, gL_sL, gL_sA, gL_sM, aI_sI, aI_sL, aI_sA, aI_sM, aL_sI, aL_sL, aL_sA, aL_sM]
              unfold Qv_statementZ
              try dsimp only
              exact hq144
          · refine hB _ _ _ _ _ (fun m145 hm145 => ?_)
            dsimp only [ugo, uwp, ust, uct, rfd, Bstatement, Nat.beq, lv_args, rlk, rs1, rs2, rdl, rky, rcd, rno, rsw, Value.category, List.filter, List.take, List.drop, List.reverse, List.reverseAux, List.cons_append, List.nil_append, Option.toList, Int.toNat, Int.reduceToNat, if_pos, if_neg, reduceIte, ↓reduceIte, Nat.reduceAdd, Nat.reduceEqDiff, Nat.reduceBEq, beq_self_eq_true, Bool.not_true, Bool.not_false, Bool.and_true, Bool.and_false, Bool.true_and, Bool.false_and, gI_sI, gI_sL, gI_sA, gI_sM, gL_sI, gL_sL, gL_sA, gL_sM, aI_sI, aI_sL, aI_sA, aI_sM, aL_sI, aL_sL, aL_sA, aL_sM, Bstatement_0, Bstatement_14, Bstatement_37, Bstatement_47, Bstatement_51, Bstatement_52, Bstatement_53, Bstatement_63, Bstatement_75, Bstatement_108, Bstatement_115, Bstatement_126, Bstatement_130, Bstatement_131, Bstatement_132, Bstatement_142, Bstatement_147, Bstatement_220, Bstatement_225, Bstatement_230, Bstatement_235, Bstatement_240, Bstatement_245, Bstatement_250, Bstatement_255, Bstatement_260, oi_0, oi_1, oi_123, oi_20, oi_4, oi_41, oi_58, oi_7]; try dsimp only
            have h6n : ¬ (codY z.1 = 80 ∧ cobY z.1 = 6) := fun q => (by by_cases hz : zAt z.1 < 500; exact hk73 ⟨((SR.sh hR).nx q.1 hz).1, by have e := (tk_sg (a := 58) (d := 6) ((SR.sh hR).nx q.1 hz).2 (by decide)).mpr q.2; exact Int32.toInt_inj.mp e.1, by have e := (tk_sg (a := 58) (d := 6) ((SR.sh hR).nx q.1 hz).2 (by decide)).mpr q.2; exact Int32.toInt_inj.mp e.2⟩; have := cob_l hz; omega)
            have hw4 : ¬ (50 ≤ codY z.1 ∧ codY z.1 ≤ 73) := fun q => h101 ((SR.sh hR).ki.2.2.2.2.2.1.mpr q)
            refine ⟨trivial, fun w146 τ146 hq146 => ?_⟩
            obtain ⟨hq146, hL146⟩ := hq146
            have hq146 : StZ N τ146 _ w146 := hq146 N z n F ⟨(by repeat (first | exact hR | refine SR.i ?_ rfl | refine SR.a ?_ rfl)), (by repeat (first | exact hg | refine FgR.i ?_ rfl | refine FgR.a ?_ rfl)), (by (try simp only [frR_i, frR_a, ne_eq, Nat.reduceEqDiff, not_false_eq_true]); exact hne), (by repeat (first | exact hZ | refine BZ.i ?_ rfl | refine BZ.a ?_ rfl)), (by repeat (first | exact hK | refine KtR.i ?_ | refine KtR.a ?_ (by decide))), hw, hu, ha1, (by refine ⟨?_, ?_, ?_, ?_, ?_, ?_, ?_, ?_, ?_, ?_, ?_, h6n⟩ <;> omega)⟩
            have hv146 : w146 = some (.int 0) ∨ w146 = some (.int 1) := hq146.imp (fun q => q.1) (fun q => q.1)
            rcases hv146 with rfl | rfl
            · dsimp only [Option.toList, List.cons_append, List.nil_append, Nat.beq, gI_sI, gI_sL, gI_sA, gI_sM, gL_sI, gL_sL, gL_sA, gL_sM, aI_sI, aI_sL, aI_sA, aI_sM, aL_sI, aL_sL, aL_sA, aL_sM]
              unfold Qv_statementZ
              try dsimp only
              exact hq146
            · dsimp only [Option.toList, List.cons_append, List.nil_append, Nat.beq, gI_sI, gI_sL, gI_sA, gI_sM, gL_sI, gL_sL, gL_sA, gL_sM, aI_sI, aI_sL, aI_sA, aI_sM, aL_sI, aL_sL, aL_sA, aL_sM]
              unfold Qv_statementZ
              try dsimp only
              exact hq146
  next => exact hP.elim
theorem w_statementZ : UMet 49 (fun _ _ => True) Qw_statementZ := fun A1 σ _ w τ h N z n F hP => v_statementZ N z n F A1 σ hP w τ h
def Pv_pieceZ (N : Int → Int) (z : ZS) (n : Nat) (F : List FrZ) : UP1 := fun A1 σ => match A1 with
  | [] => SR σ z.1 n ∧ FgR σ (bF F) ∧ 0 < gI σ 62 ∧ BZ N σ z F F ∧ KtR σ z ∧ WfF F.tail ∧ LuZ z F ∧ 1 ≤ zAt z.1
  | _ => False
def Qv_pieceZ (N : Int → Int) (z : ZS) (n : Nat) (F : List FrZ) : UQ1 := fun A1 σ w τ => match A1 with
  | [] => StZ N τ (pcM N F n z) w
  | _ => False
def Qw_pieceZ : UQ1 := fun A1 σ w τ => ∀ (N : Int → Int) (z : ZS) (n : Nat) (F : List FrZ), Pv_pieceZ N z n F A1 σ → Qv_pieceZ N z n F A1 σ w τ
set_option maxRecDepth 100000 in
set_option maxHeartbeats 4000000 in
theorem v_pieceZ (N : Int → Int) (z : ZS) (n : Nat) (F : List FrZ) : UMet 44 (Pv_pieceZ N z n F) (Qv_pieceZ N z n F) := by
  refine UMet.by Bpiece [(13, (fun _ _ => True), (LqR Qw_cant)), (67, (fun _ _ => True), (LqR Qw_closeRowZ)), (60, (fun _ _ => True), (LqR Qw_closeSwitchZ)), (45, (fun _ _ => True), (LqR Qw_grouped)), (43, (fun _ _ => True), (LqR Qw_isRow)), (14, (fun _ _ => True), (LqR Qw_isSign)), (46, (fun _ _ => True), (LqR Qw_isTold)), (15, (fun _ _ => True), (LqR Qw_isWord)), (59, (fun _ _ => True), (LqR Qw_labelZ)), (49, (fun _ _ => True), (LqR Qw_statementZ)), (47, (fun _ _ => True), (LqR Qw_toldZ))] rfl (ucc (UMet.aL ck_P rfl w_cant) (ucc (UMet.aL ck_P rfl w_closeRowZ) (ucc (UMet.aL ck_P rfl w_closeSwitchZ) (ucc (UMet.aL ck_P rfl w_grouped) (ucc (UMet.aL ck_P rfl w_isRow) (ucc (UMet.aL ck_P rfl w_isSign) (ucc (UMet.aL ck_P rfl w_isTold) (ucc (UMet.aL ck_P rfl w_isWord) (ucc (UMet.aL ck_P rfl w_labelZ) (ucc (UMet.aL ck_P rfl w_statementZ) (ucc (UMet.aL ck_P rfl w_toldZ) uc0))))))))))) ?_
  intro A1 σ hP K hB hW
  unfold Pv_pieceZ at hP
  split at hP
  next =>
    obtain ⟨hR, hg, hop, hZ, hK, hw, hLu, ha1⟩ := hP
    obtain ⟨a, G, rfl⟩ := hZ.1.cons hop
    have hw : WfF G := hw
    have hT := hZ.1.top hop
    have hFa : frR σ = a.1 :: G.map (·.1) := hZ.frm
    have h011 := fr_01 hR hFa
    have hnn := hR.2.1
    have ha := SR.a5 hR
    have hFq := frR_pop hop
    intro n0_
    refine hB _ _ _ _ _ (fun m1 hm1 => ?_)
    dsimp only [ugo, uwp, ust, uct, rfd, Bpiece, Nat.beq, lv_args, rlk, rs1, rs2, rdl, rky, rcd, rno, rsw, Value.category, List.filter, List.take, List.drop, List.reverse, List.reverseAux, List.cons_append, List.nil_append, Option.toList, Int.toNat, Int.reduceToNat, if_pos, if_neg, reduceIte, ↓reduceIte, Nat.reduceAdd, Nat.reduceEqDiff, Nat.reduceBEq, beq_self_eq_true, Bool.not_true, Bool.not_false, Bool.and_true, Bool.and_false, Bool.true_and, Bool.false_and, gI_sI, gI_sL, gI_sA, gI_sM, gL_sI, gL_sL, gL_sA, gL_sM, aI_sI, aI_sL, aI_sA, aI_sM, aL_sI, aL_sL, aL_sA, aL_sM, Bpiece_0, Bpiece_20, Bpiece_29, Bpiece_35, Bpiece_42, Bpiece_49, Bpiece_53, Bpiece_54, Bpiece_60, Bpiece_69, Bpiece_74, Bpiece_83, Bpiece_92, Bpiece_97, Bpiece_104, Bpiece_109, Bpiece_116, Bpiece_123, Bpiece_127, Bpiece_128, oi_1, oi_12, oi_125, oi_13, oi_8]; try dsimp only
    intro p2
    refine ⟨trivial, fun w3 τ3 hq3 => ?_⟩
    obtain ⟨hq3, hL3⟩ := hq3
    obtain ⟨rfl, hb3⟩ := hq3 trivial
    rcases hb3 with ⟨rfl, hc3⟩ | ⟨rfl, hc3⟩
    · dsimp only [Option.toList, List.cons_append, List.nil_append, Nat.beq, gI_sI, gI_sL, gI_sA, gI_sM, gL_sI, gL_sL, gL_sA, gL_sM, aI_sI, aI_sL, aI_sA, aI_sM, aL_sI, aL_sL, aL_sA, aL_sM]
      refine ⟨fun h4 => absurd h4 (by decide), fun h4 => ?_⟩
      clear h4
      refine hB _ _ _ _ _ (fun m5 hm5 => ?_)
      dsimp only [ugo, uwp, ust, uct, rfd, Bpiece, Nat.beq, lv_args, rlk, rs1, rs2, rdl, rky, rcd, rno, rsw, Value.category, List.filter, List.take, List.drop, List.reverse, List.reverseAux, List.cons_append, List.nil_append, Option.toList, Int.toNat, Int.reduceToNat, if_pos, if_neg, reduceIte, ↓reduceIte, Nat.reduceAdd, Nat.reduceEqDiff, Nat.reduceBEq, beq_self_eq_true, Bool.not_true, Bool.not_false, Bool.and_true, Bool.and_false, Bool.true_and, Bool.false_and, gI_sI, gI_sL, gI_sA, gI_sM, gL_sI, gL_sL, gL_sA, gL_sM, aI_sI, aI_sL, aI_sA, aI_sM, aL_sI, aL_sL, aL_sA, aL_sM, Bpiece_0, Bpiece_20, Bpiece_29, Bpiece_35, Bpiece_42, Bpiece_49, Bpiece_53, Bpiece_54, Bpiece_60, Bpiece_69, Bpiece_74, Bpiece_83, Bpiece_92, Bpiece_97, Bpiece_104, Bpiece_109, Bpiece_116, Bpiece_123, Bpiece_127, Bpiece_128, oi_1, oi_12, oi_125, oi_13, oi_8]; try dsimp only
      have hcr := hc3
      have hg0 : FgR σ 0 := Fg_not hop rfl (by lia)
      have hrw : rwkY a.1 := by rw [← hT.1]; exact rwk_in hR hFq (Or.inl hcr)
      refine ⟨trivial, fun w6 τ6 hq6 => ?_⟩
      obtain ⟨hq6, hL6⟩ := hq6
      obtain ⟨rfl, b6, rfl, hb6⟩ := hq6 trivial
      have he6 := (XrR.s (SR.x (e_ := 0) (by repeat (first | exact hR | refine SR.i ?_ rfl | refine SR.a ?_ rfl)))).sg (x := 125) (d := 3) (by decide)
      rcases hb6 with ⟨rfl, hk6⟩ | ⟨rfl, hk6⟩
      · dsimp only [Option.toList, List.cons_append, List.nil_append, Nat.beq, gI_sI, gI_sL, gI_sA, gI_sM, gL_sI, gL_sL, gL_sA, gL_sM, aI_sI, aI_sL, aI_sA, aI_sM, aL_sI, aL_sL, aL_sA, aL_sM]
        have hc6 : codY z.1 = 3 := he6.mp hk6
        refine ⟨fun h7 => absurd h7 (by decide), fun h7 => ?_⟩
        clear h7
        refine hB _ _ _ _ _ (fun m8 hm8 => ?_)
        dsimp only [ugo, uwp, ust, uct, rfd, Bpiece, Nat.beq, lv_args, rlk, rs1, rs2, rdl, rky, rcd, rno, rsw, Value.category, List.filter, List.take, List.drop, List.reverse, List.reverseAux, List.cons_append, List.nil_append, Option.toList, Int.toNat, Int.reduceToNat, if_pos, if_neg, reduceIte, ↓reduceIte, Nat.reduceAdd, Nat.reduceEqDiff, Nat.reduceBEq, beq_self_eq_true, Bool.not_true, Bool.not_false, Bool.and_true, Bool.and_false, Bool.true_and, Bool.false_and, gI_sI, gI_sL, gI_sA, gI_sM, gL_sI, gL_sL, gL_sA, gL_sM, aI_sI, aI_sL, aI_sA, aI_sM, aL_sI, aL_sL, aL_sA, aL_sM, Bpiece_0, Bpiece_20, Bpiece_29, Bpiece_35, Bpiece_42, Bpiece_49, Bpiece_53, Bpiece_54, Bpiece_60, Bpiece_69, Bpiece_74, Bpiece_83, Bpiece_92, Bpiece_97, Bpiece_104, Bpiece_109, Bpiece_116, Bpiece_123, Bpiece_127, Bpiece_128, oi_1, oi_12, oi_125, oi_13, oi_8]; try dsimp only
        refine ⟨trivial, fun w9 τ9 hq9 => ?_⟩
        obtain ⟨hq9, hL9⟩ := hq9
        have hq9 : StZ N τ9 _ w9 := hq9 N z n G a ⟨hR, hop, hT.1.symm, (by have := tt_in hR hFq; rcases hcr with q | q | q <;> lia), (by assumption), hZ, hK, hw, ha1⟩
        have hv9 : w9 = some (.int 0) ∨ w9 = some (.int 1) := hq9.imp (fun q => q.1) (fun q => q.1)
        rcases hv9 with rfl | rfl
        · dsimp only [Option.toList, List.cons_append, List.nil_append, Nat.beq, gI_sI, gI_sL, gI_sA, gI_sM, gL_sI, gL_sL, gL_sA, gL_sM, aI_sI, aI_sL, aI_sA, aI_sM, aL_sI, aL_sL, aL_sA, aL_sM]
          unfold Qv_pieceZ
          try dsimp only
          rw [pc_closeM hrw (by assumption)]
          exact hq9
        · dsimp only [Option.toList, List.cons_append, List.nil_append, Nat.beq, gI_sI, gI_sL, gI_sA, gI_sM, gL_sI, gL_sL, gL_sA, gL_sM, aI_sI, aI_sL, aI_sA, aI_sM, aL_sI, aL_sL, aL_sA, aL_sM]
          unfold Qv_pieceZ
          try dsimp only
          rw [pc_closeM hrw (by assumption)]
          exact hq9
      · dsimp only [Option.toList, List.cons_append, List.nil_append, Nat.beq, gI_sI, gI_sL, gI_sA, gI_sM, gL_sI, gL_sL, gL_sA, gL_sM, aI_sI, aI_sL, aI_sA, aI_sM, aL_sI, aL_sL, aL_sA, aL_sM]
        have hc6 : ¬ codY z.1 = 3 := fun q => hk6 (he6.mpr q)
        refine ⟨fun h10 => ?_, fun h10 => absurd h10 (by decide)⟩
        clear h10
        refine hB _ _ _ _ _ (fun m11 hm11 => ?_)
        dsimp only [ugo, uwp, ust, uct, rfd, Bpiece, Nat.beq, lv_args, rlk, rs1, rs2, rdl, rky, rcd, rno, rsw, Value.category, List.filter, List.take, List.drop, List.reverse, List.reverseAux, List.cons_append, List.nil_append, Option.toList, Int.toNat, Int.reduceToNat, if_pos, if_neg, reduceIte, ↓reduceIte, Nat.reduceAdd, Nat.reduceEqDiff, Nat.reduceBEq, beq_self_eq_true, Bool.not_true, Bool.not_false, Bool.and_true, Bool.and_false, Bool.true_and, Bool.false_and, gI_sI, gI_sL, gI_sA, gI_sM, gL_sI, gL_sL, gL_sA, gL_sM, aI_sI, aI_sL, aI_sA, aI_sM, aL_sI, aL_sL, aL_sA, aL_sM, Bpiece_0, Bpiece_20, Bpiece_29, Bpiece_35, Bpiece_42, Bpiece_49, Bpiece_53, Bpiece_54, Bpiece_60, Bpiece_69, Bpiece_74, Bpiece_83, Bpiece_92, Bpiece_97, Bpiece_104, Bpiece_109, Bpiece_116, Bpiece_123, Bpiece_127, Bpiece_128, oi_1, oi_12, oi_125, oi_13, oi_8]; try dsimp only
        refine ⟨trivial, fun w12 τ12 hq12 => ?_⟩
        obtain ⟨hq12, hL12⟩ := hq12
        have hq12 := hq12 _ z.1 n (SR.x (e_ := 0) (by repeat (first | exact hR | refine SR.i ?_ rfl | refine SR.a ?_ rfl)))
        obtain ⟨rfl, hb12⟩ := hq12
        rcases hb12 with ⟨rfl, hc12⟩ | ⟨rfl, hc12⟩
        · dsimp only [Option.toList, List.cons_append, List.nil_append, Nat.beq, gI_sI, gI_sL, gI_sA, gI_sM, gL_sI, gL_sL, gL_sA, gL_sM, aI_sI, aI_sL, aI_sA, aI_sM, aL_sI, aL_sL, aL_sA, aL_sM]
          refine ⟨fun h13 => absurd h13 (by decide), fun h13 => ?_⟩
          clear h13
          refine hB _ _ _ _ _ (fun m14 hm14 => ?_)
          dsimp only [ugo, uwp, ust, uct, rfd, Bpiece, Nat.beq, lv_args, rlk, rs1, rs2, rdl, rky, rcd, rno, rsw, Value.category, List.filter, List.take, List.drop, List.reverse, List.reverseAux, List.cons_append, List.nil_append, Option.toList, Int.toNat, Int.reduceToNat, if_pos, if_neg, reduceIte, ↓reduceIte, Nat.reduceAdd, Nat.reduceEqDiff, Nat.reduceBEq, beq_self_eq_true, Bool.not_true, Bool.not_false, Bool.and_true, Bool.and_false, Bool.true_and, Bool.false_and, gI_sI, gI_sL, gI_sA, gI_sM, gL_sI, gL_sL, gL_sA, gL_sM, aI_sI, aI_sL, aI_sA, aI_sM, aL_sI, aL_sL, aL_sA, aL_sM, Bpiece_0, Bpiece_20, Bpiece_29, Bpiece_35, Bpiece_42, Bpiece_49, Bpiece_53, Bpiece_54, Bpiece_60, Bpiece_69, Bpiece_74, Bpiece_83, Bpiece_92, Bpiece_97, Bpiece_104, Bpiece_109, Bpiece_116, Bpiece_123, Bpiece_127, Bpiece_128, oi_1, oi_12, oi_125, oi_13, oi_8]; try dsimp only
          refine ⟨trivial, fun w15 τ15 hq15 => ?_⟩
          obtain ⟨hq15, hL15⟩ := hq15
          have hq15 := hq15 N z n G a ⟨hR, hg0, (by rw [hFq]; exact List.cons_ne_nil _ _), hZ, hK, hrw, hop⟩
          rcases hq15 with ⟨rfl, hF15⟩ | ⟨rfl, hR15, hg15, hf15, hZ15, hK15⟩
          · dsimp only [Option.toList, List.cons_append, List.nil_append, Nat.beq, gI_sI, gI_sL, gI_sA, gI_sM, gL_sI, gL_sL, gL_sA, gL_sM, aI_sI, aI_sL, aI_sA, aI_sM, aL_sI, aL_sL, aL_sA, aL_sM]
            refine hB _ _ _ _ _ (fun m16 hm16 => ?_)
            dsimp only [ugo, uwp, ust, uct, rfd, Bpiece, Nat.beq, lv_args, rlk, rs1, rs2, rdl, rky, rcd, rno, rsw, Value.category, List.filter, List.take, List.drop, List.reverse, List.reverseAux, List.cons_append, List.nil_append, Option.toList, Int.toNat, Int.reduceToNat, if_pos, if_neg, reduceIte, ↓reduceIte, Nat.reduceAdd, Nat.reduceEqDiff, Nat.reduceBEq, beq_self_eq_true, Bool.not_true, Bool.not_false, Bool.and_true, Bool.and_false, Bool.true_and, Bool.false_and, gI_sI, gI_sL, gI_sA, gI_sM, gL_sI, gL_sL, gL_sA, gL_sM, aI_sI, aI_sL, aI_sA, aI_sM, aL_sI, aL_sL, aL_sA, aL_sM, Bpiece_0, Bpiece_20, Bpiece_29, Bpiece_35, Bpiece_42, Bpiece_49, Bpiece_53, Bpiece_54, Bpiece_60, Bpiece_69, Bpiece_74, Bpiece_83, Bpiece_92, Bpiece_97, Bpiece_104, Bpiece_109, Bpiece_116, Bpiece_123, Bpiece_127, Bpiece_128, oi_1, oi_12, oi_125, oi_13, oi_8]; try dsimp only
            unfold Qv_pieceZ
            try dsimp only
            rw [pc_toM hrw ha.1 ha.2 (SR.z hR) (fun q => by exfalso; have q : a.1 = (8 : Int32).toInt := q; rw [← hT.1] at q; have := Int32.toInt_inj.mp q; lia) (by assumption)]
            refine StZ.o (T := sfY (a.1 :: G.map (·.1)) n (xpY 4 (varY n z.1))) (by rw [lf_sf _ (Wf_pa h011 hw), lf_to]; rfl) ?_
            exact StQ.f hF15 (gd_sf _ _ _)
          · dsimp only [Option.toList, List.cons_append, List.nil_append, Nat.beq, gI_sI, gI_sL, gI_sA, gI_sM, gL_sI, gL_sL, gL_sA, gL_sM, aI_sI, aI_sL, aI_sA, aI_sM, aL_sI, aL_sL, aL_sA, aL_sM]
            refine hB _ _ _ _ _ (fun m17 hm17 => ?_)
            dsimp only [ugo, uwp, ust, uct, rfd, Bpiece, Nat.beq, lv_args, rlk, rs1, rs2, rdl, rky, rcd, rno, rsw, Value.category, List.filter, List.take, List.drop, List.reverse, List.reverseAux, List.cons_append, List.nil_append, Option.toList, Int.toNat, Int.reduceToNat, if_pos, if_neg, reduceIte, ↓reduceIte, Nat.reduceAdd, Nat.reduceEqDiff, Nat.reduceBEq, beq_self_eq_true, Bool.not_true, Bool.not_false, Bool.and_true, Bool.and_false, Bool.true_and, Bool.false_and, gI_sI, gI_sL, gI_sA, gI_sM, gL_sI, gL_sL, gL_sA, gL_sM, aI_sI, aI_sL, aI_sA, aI_sM, aL_sI, aL_sL, aL_sA, aL_sM, Bpiece_0, Bpiece_20, Bpiece_29, Bpiece_35, Bpiece_42, Bpiece_49, Bpiece_53, Bpiece_54, Bpiece_60, Bpiece_69, Bpiece_74, Bpiece_83, Bpiece_92, Bpiece_97, Bpiece_104, Bpiece_109, Bpiece_116, Bpiece_123, Bpiece_127, Bpiece_128, oi_1, oi_12, oi_125, oi_13, oi_8]; try dsimp only
            unfold Qv_pieceZ
            try dsimp only
            have hrp : rwkY (paF a (snM z)).1 := hrw
            exact Or.inr ⟨rfl, (nxM ((paF a (snM z)).2.2.2.1.getD 2 0) ((paF a (snM z)).2.2.2.1.getD 1 0).toNat (toM N n z)), n, (paF a (snM z)) :: G, (by rw [lf_nx, lf_to]; exact hR15), FgR.bf hg15 (by rw [hf15]; exact hFa) (fun _ => pa_0), BZ.nx (BZ.pa hZ15), KtR.gh hK15 nx_2.1 nx_2.2, hw, (fun q => by have q : a.1 = 7 := q; unfold rwkY at hrw; omega), (by rw [lf_nx, lf_to]; exact GpY.a1 (by repeat (first | with_reducible exact GpY.rf | with_reducible refine GpY.tr ?_ (gd_fo _) | with_reducible refine GpY.tr ?_ (gd_ef _) | with_reducible refine GpY.tr ?_ (gd_cf _) | with_reducible refine GpY.tr ?_ (gd_wt _) | with_reducible refine GpY.tr ?_ (gd_xp _) | with_reducible refine GpY.tr ?_ (gd_acc _) | with_reducible refine GpY.tr ?_ (gd_rai _) | with_reducible refine GpY.tr ?_ (gd_e _) | with_reducible refine GpY.tr ?_ (gd_o _) | with_reducible refine GpY.tr ?_ (gd_c _) | with_reducible refine GpY.tr ?_ (gd_op _) | with_reducible refine GpY.tr ?_ (gd_clp gd_e _ _) | with_reducible refine GpY.tr ?_ (gd_tl _) | with_reducible refine GpY.tr ?_ (gd_sf _ _ _) | with_reducible refine GpY.tr ?_ (gd_cl _) | with_reducible refine GpY.tr ?_ (gd_pc _) | with_reducible refine GpY.tr ?_ (gd_st _) | with_reducible refine GpY.tr ?_ (gd_rw _) | with_reducible refine GpY.tr ?_ (gd_typ _) | with_reducible refine GpY.tr ?_ (gd_dcl _) | with_reducible refine GpY.tr ?_ (gd_va2 _) | with_reducible refine GpY.tr ?_ (gd_cnd _) | with_reducible refine GpY.tr ?_ (gd_tr1 _) | with_reducible refine GpY.tr ?_ (gd_tr2 (fun _ => gd_rw) _) | with_reducible refine GpY.tr ?_ (gd_tr3 (fun _ => gd_rw) _) | with_reducible refine GpY.tr ?_ (gd_fo1 _) | with_reducible refine GpY.tr ?_ (gd_fo2 _) | with_reducible refine GpY.tr ?_ (gd_fo3 _) | with_reducible refine GpY.tr ?_ (gd_fex _) | with_reducible refine GpY.tr ?_ (gp_varZ) | with_reducible refine GpY.tr ?_ (gp_casZ) | exact GpY.rf)) hR.1.a5.2 ha1), (sf_rowM hrp).symm.trans (pc_toM hrw ha.1 ha.2 (SR.z hR) (fun q => by exfalso; have q : a.1 = (8 : Int32).toInt := q; rw [← hT.1] at q; have := Int32.toInt_inj.mp q; lia) (by assumption)).symm⟩
        · dsimp only [Option.toList, List.cons_append, List.nil_append, Nat.beq, gI_sI, gI_sL, gI_sA, gI_sM, gL_sI, gL_sL, gL_sA, gL_sM, aI_sI, aI_sL, aI_sA, aI_sM, aL_sI, aL_sL, aL_sA, aL_sM]
          refine ⟨fun h18 => ?_, fun h18 => absurd h18 (by decide)⟩
          clear h18
          refine hB _ _ _ _ _ (fun m19 hm19 => ?_)
          dsimp only [ugo, uwp, ust, uct, rfd, Bpiece, Nat.beq, lv_args, rlk, rs1, rs2, rdl, rky, rcd, rno, rsw, Value.category, List.filter, List.take, List.drop, List.reverse, List.reverseAux, List.cons_append, List.nil_append, Option.toList, Int.toNat, Int.reduceToNat, if_pos, if_neg, reduceIte, ↓reduceIte, Nat.reduceAdd, Nat.reduceEqDiff, Nat.reduceBEq, beq_self_eq_true, Bool.not_true, Bool.not_false, Bool.and_true, Bool.and_false, Bool.true_and, Bool.false_and, gI_sI, gI_sL, gI_sA, gI_sM, gL_sI, gL_sL, gL_sA, gL_sM, aI_sI, aI_sL, aI_sA, aI_sM, aL_sI, aL_sL, aL_sA, aL_sM, Bpiece_0, Bpiece_20, Bpiece_29, Bpiece_35, Bpiece_42, Bpiece_49, Bpiece_53, Bpiece_54, Bpiece_60, Bpiece_69, Bpiece_74, Bpiece_83, Bpiece_92, Bpiece_97, Bpiece_104, Bpiece_109, Bpiece_116, Bpiece_123, Bpiece_127, Bpiece_128, oi_1, oi_12, oi_125, oi_13, oi_8]; try dsimp only
          refine ⟨trivial, fun w20 τ20 hq20 => ?_⟩
          obtain ⟨hq20, hL20⟩ := hq20
          have hq20 : StZ N τ20 _ w20 := hq20 N z n (paF a (snM z) :: G) ⟨hR, hg0, (by rw [hFq]; exact List.cons_ne_nil _ _), BZ.pa hZ, hK, Wf_pa h011 hw, (fun q => by have q : a.1 = 7 := q; exact hLu q), ha1⟩
          have hv20 : w20 = some (.int 0) ∨ w20 = some (.int 1) := hq20.imp (fun q => q.1) (fun q => q.1)
          rcases hv20 with rfl | rfl
          · dsimp only [Option.toList, List.cons_append, List.nil_append, Nat.beq, gI_sI, gI_sL, gI_sA, gI_sM, gL_sI, gL_sL, gL_sA, gL_sM, aI_sI, aI_sL, aI_sA, aI_sM, aL_sI, aL_sL, aL_sA, aL_sM]
            refine hB _ _ _ _ _ (fun m21 hm21 => ?_)
            dsimp only [ugo, uwp, ust, uct, rfd, Bpiece, Nat.beq, lv_args, rlk, rs1, rs2, rdl, rky, rcd, rno, rsw, Value.category, List.filter, List.take, List.drop, List.reverse, List.reverseAux, List.cons_append, List.nil_append, Option.toList, Int.toNat, Int.reduceToNat, if_pos, if_neg, reduceIte, ↓reduceIte, Nat.reduceAdd, Nat.reduceEqDiff, Nat.reduceBEq, beq_self_eq_true, Bool.not_true, Bool.not_false, Bool.and_true, Bool.and_false, Bool.true_and, Bool.false_and, gI_sI, gI_sL, gI_sA, gI_sM, gL_sI, gL_sL, gL_sA, gL_sM, aI_sI, aI_sL, aI_sA, aI_sM, aL_sI, aL_sL, aL_sA, aL_sM, Bpiece_0, Bpiece_20, Bpiece_29, Bpiece_35, Bpiece_42, Bpiece_49, Bpiece_53, Bpiece_54, Bpiece_60, Bpiece_69, Bpiece_74, Bpiece_83, Bpiece_92, Bpiece_97, Bpiece_104, Bpiece_109, Bpiece_116, Bpiece_123, Bpiece_127, Bpiece_128, oi_1, oi_12, oi_125, oi_13, oi_8]; try dsimp only
            unfold Qv_pieceZ
            try dsimp only
            rw [pc_staM hrw ha.1 ha.2 (SR.z hR) (fun q => by exfalso; have q : a.1 = (8 : Int32).toInt := q; rw [← hT.1] at q; have := Int32.toInt_inj.mp q; lia) (by assumption) (by assumption)]
            exact hq20
          · dsimp only [Option.toList, List.cons_append, List.nil_append, Nat.beq, gI_sI, gI_sL, gI_sA, gI_sM, gL_sI, gL_sL, gL_sA, gL_sM, aI_sI, aI_sL, aI_sA, aI_sM, aL_sI, aL_sL, aL_sA, aL_sM]
            refine hB _ _ _ _ _ (fun m22 hm22 => ?_)
            dsimp only [ugo, uwp, ust, uct, rfd, Bpiece, Nat.beq, lv_args, rlk, rs1, rs2, rdl, rky, rcd, rno, rsw, Value.category, List.filter, List.take, List.drop, List.reverse, List.reverseAux, List.cons_append, List.nil_append, Option.toList, Int.toNat, Int.reduceToNat, if_pos, if_neg, reduceIte, ↓reduceIte, Nat.reduceAdd, Nat.reduceEqDiff, Nat.reduceBEq, beq_self_eq_true, Bool.not_true, Bool.not_false, Bool.and_true, Bool.and_false, Bool.true_and, Bool.false_and, gI_sI, gI_sL, gI_sA, gI_sM, gL_sI, gL_sL, gL_sA, gL_sM, aI_sI, aI_sL, aI_sA, aI_sM, aL_sI, aL_sL, aL_sA, aL_sM, Bpiece_0, Bpiece_20, Bpiece_29, Bpiece_35, Bpiece_42, Bpiece_49, Bpiece_53, Bpiece_54, Bpiece_60, Bpiece_69, Bpiece_74, Bpiece_83, Bpiece_92, Bpiece_97, Bpiece_104, Bpiece_109, Bpiece_116, Bpiece_123, Bpiece_127, Bpiece_128, oi_1, oi_12, oi_125, oi_13, oi_8]; try dsimp only
            unfold Qv_pieceZ
            try dsimp only
            rw [pc_staM hrw ha.1 ha.2 (SR.z hR) (fun q => by exfalso; have q : a.1 = (8 : Int32).toInt := q; rw [← hT.1] at q; have := Int32.toInt_inj.mp q; lia) (by assumption) (by assumption)]
            exact hq20
    · dsimp only [Option.toList, List.cons_append, List.nil_append, Nat.beq, gI_sI, gI_sL, gI_sA, gI_sM, gL_sI, gL_sL, gL_sA, gL_sM, aI_sI, aI_sL, aI_sA, aI_sM, aL_sI, aL_sL, aL_sA, aL_sM]
      refine ⟨fun h23 => ?_, fun h23 => absurd h23 (by decide)⟩
      clear h23
      refine hB _ _ _ _ _ (fun m24 hm24 => ?_)
      dsimp only [ugo, uwp, ust, uct, rfd, Bpiece, Nat.beq, lv_args, rlk, rs1, rs2, rdl, rky, rcd, rno, rsw, Value.category, List.filter, List.take, List.drop, List.reverse, List.reverseAux, List.cons_append, List.nil_append, Option.toList, Int.toNat, Int.reduceToNat, if_pos, if_neg, reduceIte, ↓reduceIte, Nat.reduceAdd, Nat.reduceEqDiff, Nat.reduceBEq, beq_self_eq_true, Bool.not_true, Bool.not_false, Bool.and_true, Bool.and_false, Bool.true_and, Bool.false_and, gI_sI, gI_sL, gI_sA, gI_sM, gL_sI, gL_sL, gL_sA, gL_sM, aI_sI, aI_sL, aI_sA, aI_sM, aL_sI, aL_sL, aL_sA, aL_sM, Bpiece_0, Bpiece_20, Bpiece_29, Bpiece_35, Bpiece_42, Bpiece_49, Bpiece_53, Bpiece_54, Bpiece_60, Bpiece_69, Bpiece_74, Bpiece_83, Bpiece_92, Bpiece_97, Bpiece_104, Bpiece_109, Bpiece_116, Bpiece_123, Bpiece_127, Bpiece_128, oi_1, oi_12, oi_125, oi_13, oi_8]; try dsimp only
      refine ⟨fun h25 => ?_, fun h25 => ?_⟩
      · refine hB _ _ _ _ _ (fun m26 hm26 => ?_)
        dsimp only [ugo, uwp, ust, uct, rfd, Bpiece, Nat.beq, lv_args, rlk, rs1, rs2, rdl, rky, rcd, rno, rsw, Value.category, List.filter, List.take, List.drop, List.reverse, List.reverseAux, List.cons_append, List.nil_append, Option.toList, Int.toNat, Int.reduceToNat, if_pos, if_neg, reduceIte, ↓reduceIte, Nat.reduceAdd, Nat.reduceEqDiff, Nat.reduceBEq, beq_self_eq_true, Bool.not_true, Bool.not_false, Bool.and_true, Bool.and_false, Bool.true_and, Bool.false_and, gI_sI, gI_sL, gI_sA, gI_sM, gL_sI, gL_sL, gL_sA, gL_sM, aI_sI, aI_sL, aI_sA, aI_sM, aL_sI, aL_sL, aL_sA, aL_sM, Bpiece_0, Bpiece_20, Bpiece_29, Bpiece_35, Bpiece_42, Bpiece_49, Bpiece_53, Bpiece_54, Bpiece_60, Bpiece_69, Bpiece_74, Bpiece_83, Bpiece_92, Bpiece_97, Bpiece_104, Bpiece_109, Bpiece_116, Bpiece_123, Bpiece_127, Bpiece_128, oi_1, oi_12, oi_125, oi_13, oi_8]; try dsimp only
        have hcr := hc3
        have hg0 : FgR σ 0 := Fg_not hop rfl (by lia)
        have hw2 : WfF (a :: G) := fun b hb => by
          rcases List.mem_cons.mp hb with rfl | hb
          · exact ⟨h011, fun q => by exfalso; have q : b.1 = (8 : Int32).toInt := q; rw [← hT.1] at q; have := Int32.toInt_inj.mp q; lia⟩
          · exact hw b hb
        refine ⟨trivial, fun w27 τ27 hq27 => ?_⟩
        obtain ⟨hq27, hL27⟩ := hq27
        have hq27 : StZ N τ27 _ w27 := hq27 N z n (a :: G) ⟨hR, hg0, (by rw [hFq]; exact List.cons_ne_nil _ _), hZ, hK, hw2, (fun q => by have q : a.1 = 7 := q; exact hLu q), ha1⟩
        have hv27 : w27 = some (.int 0) ∨ w27 = some (.int 1) := hq27.imp (fun q => q.1) (fun q => q.1)
        rcases hv27 with rfl | rfl
        · dsimp only [Option.toList, List.cons_append, List.nil_append, Nat.beq, gI_sI, gI_sL, gI_sA, gI_sM, gL_sI, gL_sL, gL_sA, gL_sM, aI_sI, aI_sL, aI_sA, aI_sM, aL_sI, aL_sL, aL_sA, aL_sM]
          unfold Qv_pieceZ
          try dsimp only
          rw [pc_stM (by rw [← hT.1]; exact tt_st hR hFq hcr (by lia))]
          exact hq27
        · dsimp only [Option.toList, List.cons_append, List.nil_append, Nat.beq, gI_sI, gI_sL, gI_sA, gI_sM, gL_sI, gL_sL, gL_sA, gL_sM, aI_sI, aI_sL, aI_sA, aI_sM, aL_sI, aL_sL, aL_sA, aL_sM]
          unfold Qv_pieceZ
          try dsimp only
          rw [pc_stM (by rw [← hT.1]; exact tt_st hR hFq hcr (by lia))]
          exact hq27
      · refine hB _ _ _ _ _ (fun m28 hm28 => ?_)
        dsimp only [ugo, uwp, ust, uct, rfd, Bpiece, Nat.beq, lv_args, rlk, rs1, rs2, rdl, rky, rcd, rno, rsw, Value.category, List.filter, List.take, List.drop, List.reverse, List.reverseAux, List.cons_append, List.nil_append, Option.toList, Int.toNat, Int.reduceToNat, if_pos, if_neg, reduceIte, ↓reduceIte, Nat.reduceAdd, Nat.reduceEqDiff, Nat.reduceBEq, beq_self_eq_true, Bool.not_true, Bool.not_false, Bool.and_true, Bool.and_false, Bool.true_and, Bool.false_and, gI_sI, gI_sL, gI_sA, gI_sM, gL_sI, gL_sL, gL_sA, gL_sM, aI_sI, aI_sL, aI_sA, aI_sM, aL_sI, aL_sL, aL_sA, aL_sM, Bpiece_0, Bpiece_20, Bpiece_29, Bpiece_35, Bpiece_42, Bpiece_49, Bpiece_53, Bpiece_54, Bpiece_60, Bpiece_69, Bpiece_74, Bpiece_83, Bpiece_92, Bpiece_97, Bpiece_104, Bpiece_109, Bpiece_116, Bpiece_123, Bpiece_127, Bpiece_128, oi_1, oi_12, oi_125, oi_13, oi_8]; try dsimp only
        have hT8 : (aI σ 63 (gI σ 62 - 1).toNatClampNeg) = 8 := by lia
        have h8a : a.1 = 8 := hT.1.symm.trans (congrArg Int32.toInt hT8)
        have hrw : rwkY a.1 := by rw [h8a]; decide
        refine ⟨trivial, fun w29 τ29 hq29 => ?_⟩
        obtain ⟨hq29, hL29⟩ := hq29
        obtain ⟨rfl, b29, rfl, hb29⟩ := hq29 trivial
        have he29 := (XrR.s (SR.x (e_ := 0) (by repeat (first | exact hR | refine SR.i ?_ rfl | refine SR.a ?_ rfl)))).sg (x := 125) (d := 3) (by decide)
        rcases hb29 with ⟨rfl, hk29⟩ | ⟨rfl, hk29⟩
        · dsimp only [Option.toList, List.cons_append, List.nil_append, Nat.beq, gI_sI, gI_sL, gI_sA, gI_sM, gL_sI, gL_sL, gL_sA, gL_sM, aI_sI, aI_sL, aI_sA, aI_sM, aL_sI, aL_sL, aL_sA, aL_sM]
          have hc29 : codY z.1 = 3 := he29.mp hk29
          refine ⟨fun h30 => absurd h30 (by decide), fun h30 => ?_⟩
          clear h30
          refine hB _ _ _ _ _ (fun m31 hm31 => ?_)
          dsimp only [ugo, uwp, ust, uct, rfd, Bpiece, Nat.beq, lv_args, rlk, rs1, rs2, rdl, rky, rcd, rno, rsw, Value.category, List.filter, List.take, List.drop, List.reverse, List.reverseAux, List.cons_append, List.nil_append, Option.toList, Int.toNat, Int.reduceToNat, if_pos, if_neg, reduceIte, ↓reduceIte, Nat.reduceAdd, Nat.reduceEqDiff, Nat.reduceBEq, beq_self_eq_true, Bool.not_true, Bool.not_false, Bool.and_true, Bool.and_false, Bool.true_and, Bool.false_and, gI_sI, gI_sL, gI_sA, gI_sM, gL_sI, gL_sL, gL_sA, gL_sM, aI_sI, aI_sL, aI_sA, aI_sM, aL_sI, aL_sL, aL_sA, aL_sM, Bpiece_0, Bpiece_20, Bpiece_29, Bpiece_35, Bpiece_42, Bpiece_49, Bpiece_53, Bpiece_54, Bpiece_60, Bpiece_69, Bpiece_74, Bpiece_83, Bpiece_92, Bpiece_97, Bpiece_104, Bpiece_109, Bpiece_116, Bpiece_123, Bpiece_127, Bpiece_128, oi_1, oi_12, oi_125, oi_13, oi_8]; try dsimp only
          refine ⟨trivial, fun w32 τ32 hq32 => ?_⟩
          obtain ⟨hq32, hL32⟩ := hq32
          have hq32 : StZ N τ32 _ w32 := hq32 N z n G a ⟨hR, hop, h8a, (by assumption), hZ, hK, hw, ha1⟩
          have hv32 : w32 = some (.int 0) ∨ w32 = some (.int 1) := hq32.imp (fun q => q.1) (fun q => q.1)
          rcases hv32 with rfl | rfl
          · dsimp only [Option.toList, List.cons_append, List.nil_append, Nat.beq, gI_sI, gI_sL, gI_sA, gI_sM, gL_sI, gL_sL, gL_sA, gL_sM, aI_sI, aI_sL, aI_sA, aI_sM, aL_sI, aL_sL, aL_sA, aL_sM]
            unfold Qv_pieceZ
            try dsimp only
            rw [pc_closeM hrw (by assumption)]
            exact hq32
          · dsimp only [Option.toList, List.cons_append, List.nil_append, Nat.beq, gI_sI, gI_sL, gI_sA, gI_sM, gL_sI, gL_sL, gL_sA, gL_sM, aI_sI, aI_sL, aI_sA, aI_sM, aL_sI, aL_sL, aL_sA, aL_sM]
            unfold Qv_pieceZ
            try dsimp only
            rw [pc_closeM hrw (by assumption)]
            exact hq32
        · dsimp only [Option.toList, List.cons_append, List.nil_append, Nat.beq, gI_sI, gI_sL, gI_sA, gI_sM, gL_sI, gL_sL, gL_sA, gL_sM, aI_sI, aI_sL, aI_sA, aI_sM, aL_sI, aL_sL, aL_sA, aL_sM]
          have hc29 : ¬ codY z.1 = 3 := fun q => hk29 (he29.mpr q)
          refine ⟨fun h33 => ?_, fun h33 => absurd h33 (by decide)⟩
          clear h33
          refine hB _ _ _ _ _ (fun m34 hm34 => ?_)
          dsimp only [ugo, uwp, ust, uct, rfd, Bpiece, Nat.beq, lv_args, rlk, rs1, rs2, rdl, rky, rcd, rno, rsw, Value.category, List.filter, List.take, List.drop, List.reverse, List.reverseAux, List.cons_append, List.nil_append, Option.toList, Int.toNat, Int.reduceToNat, if_pos, if_neg, reduceIte, ↓reduceIte, Nat.reduceAdd, Nat.reduceEqDiff, Nat.reduceBEq, beq_self_eq_true, Bool.not_true, Bool.not_false, Bool.and_true, Bool.and_false, Bool.true_and, Bool.false_and, gI_sI, gI_sL, gI_sA, gI_sM, gL_sI, gL_sL, gL_sA, gL_sM, aI_sI, aI_sL, aI_sA, aI_sM, aL_sI, aL_sL, aL_sA, aL_sM, Bpiece_0, Bpiece_20, Bpiece_29, Bpiece_35, Bpiece_42, Bpiece_49, Bpiece_53, Bpiece_54, Bpiece_60, Bpiece_69, Bpiece_74, Bpiece_83, Bpiece_92, Bpiece_97, Bpiece_104, Bpiece_109, Bpiece_116, Bpiece_123, Bpiece_127, Bpiece_128, oi_1, oi_12, oi_125, oi_13, oi_8]; try dsimp only
          refine ⟨trivial, fun w35 τ35 hq35 => ?_⟩
          obtain ⟨hq35, hL35⟩ := hq35
          obtain ⟨rfl, b35, rfl, hb35⟩ := hq35 trivial
          have he35 := (XrR.s (SR.x (e_ := 0) (by repeat (first | exact hR | refine SR.i ?_ rfl | refine SR.a ?_ rfl)))).wd (x := 12) (by decide)
          rcases hb35 with ⟨rfl, hk35⟩ | ⟨rfl, hk35⟩
          · dsimp only [Option.toList, List.cons_append, List.nil_append, Nat.beq, gI_sI, gI_sL, gI_sA, gI_sM, gL_sI, gL_sL, gL_sA, gL_sM, aI_sI, aI_sL, aI_sA, aI_sM, aL_sI, aL_sL, aL_sA, aL_sM]
            have hc35 : codY z.1 = 62 := he35.mp hk35
            refine ⟨fun h36 => ?_, fun h36 => absurd h36 (by decide)⟩
            clear h36
            refine hB _ _ _ _ _ (fun m37 hm37 => ?_)
            dsimp only [ugo, uwp, ust, uct, rfd, Bpiece, Nat.beq, lv_args, rlk, rs1, rs2, rdl, rky, rcd, rno, rsw, Value.category, List.filter, List.take, List.drop, List.reverse, List.reverseAux, List.cons_append, List.nil_append, Option.toList, Int.toNat, Int.reduceToNat, if_pos, if_neg, reduceIte, ↓reduceIte, Nat.reduceAdd, Nat.reduceEqDiff, Nat.reduceBEq, beq_self_eq_true, Bool.not_true, Bool.not_false, Bool.and_true, Bool.and_false, Bool.true_and, Bool.false_and, gI_sI, gI_sL, gI_sA, gI_sM, gL_sI, gL_sL, gL_sA, gL_sM, aI_sI, aI_sL, aI_sA, aI_sM, aL_sI, aL_sL, aL_sA, aL_sM, Bpiece_0, Bpiece_20, Bpiece_29, Bpiece_35, Bpiece_42, Bpiece_49, Bpiece_53, Bpiece_54, Bpiece_60, Bpiece_69, Bpiece_74, Bpiece_83, Bpiece_92, Bpiece_97, Bpiece_104, Bpiece_109, Bpiece_116, Bpiece_123, Bpiece_127, Bpiece_128, oi_1, oi_12, oi_125, oi_13, oi_8]; try dsimp only
            refine ⟨trivial, fun w38 τ38 hq38 => ?_⟩
            obtain ⟨hq38, hL38⟩ := hq38
            have hq38 := hq38 N z n G a ⟨hR, hop, h8a, by omega, hZ, hK⟩
            rcases hq38 with ⟨rfl, hF38⟩ | ⟨rfl, hR38, hg38, hf38, hZ38, hK38⟩
            · dsimp only [Option.toList, List.cons_append, List.nil_append, Nat.beq, gI_sI, gI_sL, gI_sA, gI_sM, gL_sI, gL_sL, gL_sA, gL_sM, aI_sI, aI_sL, aI_sA, aI_sM, aL_sI, aL_sL, aL_sA, aL_sM]
              unfold Qv_pieceZ
              try dsimp only
              rw [(by obtain ⟨k_, j, c, x, out⟩ := a; have e : k_ = 8 := h8a; subst e; exact pc_casM ha.1 ha.2 (SR.z hR) (by omega) : pcM N (a :: G) n z = sfM N (paF a (snM z) :: G) n (csM N (a.2.2.1.2 : Int) n z))]
              refine StZ.o (T := sfY (a.1 :: G.map (·.1)) n (casY n z.1)) (by rw [lf_sf _ (Wf_pa h011 hw), lf_cs]; rfl) ?_
              exact StQ.f hF38 (gd_sf _ _ _)
            · dsimp only [Option.toList, List.cons_append, List.nil_append, Nat.beq, gI_sI, gI_sL, gI_sA, gI_sM, gL_sI, gL_sL, gL_sA, gL_sM, aI_sI, aI_sL, aI_sA, aI_sM, aL_sI, aL_sL, aL_sA, aL_sM]
              unfold Qv_pieceZ
              try dsimp only
              have hrp : rwkY (paF a (snM z)).1 := hrw
              exact Or.inr ⟨rfl, (nxM ((paF a (snM z)).2.2.2.1.getD 2 0) ((paF a (snM z)).2.2.2.1.getD 1 0).toNat (csM N (a.2.2.1.2 : Int) n z)), n, (paF a (snM z)) :: G, (by rw [lf_nx, lf_cs]; exact hR38), FgR.bf hg38 (by rw [hf38]; exact hFa) (fun _ => pa_0), BZ.nx (BZ.pa hZ38), KtR.gh hK38 nx_2.1 nx_2.2, hw, (fun q => by have q : a.1 = 7 := q; unfold rwkY at hrw; omega), (by rw [lf_nx, lf_cs]; exact GpY.a1 (by repeat (first | with_reducible exact GpY.rf | with_reducible refine GpY.tr ?_ (gd_fo _) | with_reducible refine GpY.tr ?_ (gd_ef _) | with_reducible refine GpY.tr ?_ (gd_cf _) | with_reducible refine GpY.tr ?_ (gd_wt _) | with_reducible refine GpY.tr ?_ (gd_xp _) | with_reducible refine GpY.tr ?_ (gd_acc _) | with_reducible refine GpY.tr ?_ (gd_rai _) | with_reducible refine GpY.tr ?_ (gd_e _) | with_reducible refine GpY.tr ?_ (gd_o _) | with_reducible refine GpY.tr ?_ (gd_c _) | with_reducible refine GpY.tr ?_ (gd_op _) | with_reducible refine GpY.tr ?_ (gd_clp gd_e _ _) | with_reducible refine GpY.tr ?_ (gd_tl _) | with_reducible refine GpY.tr ?_ (gd_sf _ _ _) | with_reducible refine GpY.tr ?_ (gd_cl _) | with_reducible refine GpY.tr ?_ (gd_pc _) | with_reducible refine GpY.tr ?_ (gd_st _) | with_reducible refine GpY.tr ?_ (gd_rw _) | with_reducible refine GpY.tr ?_ (gd_typ _) | with_reducible refine GpY.tr ?_ (gd_dcl _) | with_reducible refine GpY.tr ?_ (gd_va2 _) | with_reducible refine GpY.tr ?_ (gd_cnd _) | with_reducible refine GpY.tr ?_ (gd_tr1 _) | with_reducible refine GpY.tr ?_ (gd_tr2 (fun _ => gd_rw) _) | with_reducible refine GpY.tr ?_ (gd_tr3 (fun _ => gd_rw) _) | with_reducible refine GpY.tr ?_ (gd_fo1 _) | with_reducible refine GpY.tr ?_ (gd_fo2 _) | with_reducible refine GpY.tr ?_ (gd_fo3 _) | with_reducible refine GpY.tr ?_ (gd_fex _) | with_reducible refine GpY.tr ?_ (gp_varZ) | with_reducible refine GpY.tr ?_ (gp_casZ) | exact GpY.rf)) hR.1.a5.2 ha1), (sf_rowM hrp).symm.trans ((by obtain ⟨k_, j, c, x, out⟩ := a; have e : k_ = 8 := h8a; subst e; exact pc_casM ha.1 ha.2 (SR.z hR) (by omega) : pcM N (a :: G) n z = sfM N (paF a (snM z) :: G) n (csM N (a.2.2.1.2 : Int) n z))).symm⟩
          · dsimp only [Option.toList, List.cons_append, List.nil_append, Nat.beq, gI_sI, gI_sL, gI_sA, gI_sM, gL_sI, gL_sL, gL_sA, gL_sM, aI_sI, aI_sL, aI_sA, aI_sM, aL_sI, aL_sL, aL_sA, aL_sM]
            have hc35 : ¬ codY z.1 = 62 := fun q => hk35 (he35.mpr q)
            refine ⟨fun h39 => absurd h39 (by decide), fun h39 => ?_⟩
            clear h39
            refine hB _ _ _ _ _ (fun m40 hm40 => ?_)
            dsimp only [ugo, uwp, ust, uct, rfd, Bpiece, Nat.beq, lv_args, rlk, rs1, rs2, rdl, rky, rcd, rno, rsw, Value.category, List.filter, List.take, List.drop, List.reverse, List.reverseAux, List.cons_append, List.nil_append, Option.toList, Int.toNat, Int.reduceToNat, if_pos, if_neg, reduceIte, ↓reduceIte, Nat.reduceAdd, Nat.reduceEqDiff, Nat.reduceBEq, beq_self_eq_true, Bool.not_true, Bool.not_false, Bool.and_true, Bool.and_false, Bool.true_and, Bool.false_and, gI_sI, gI_sL, gI_sA, gI_sM, gL_sI, gL_sL, gL_sA, gL_sM, aI_sI, aI_sL, aI_sA, aI_sM, aL_sI, aL_sL, aL_sA, aL_sM, Bpiece_0, Bpiece_20, Bpiece_29, Bpiece_35, Bpiece_42, Bpiece_49, Bpiece_53, Bpiece_54, Bpiece_60, Bpiece_69, Bpiece_74, Bpiece_83, Bpiece_92, Bpiece_97, Bpiece_104, Bpiece_109, Bpiece_116, Bpiece_123, Bpiece_127, Bpiece_128, oi_1, oi_12, oi_125, oi_13, oi_8]; try dsimp only
            refine ⟨trivial, fun w41 τ41 hq41 => ?_⟩
            obtain ⟨hq41, hL41⟩ := hq41
            obtain ⟨rfl, b41, rfl, hb41⟩ := hq41 trivial
            have he41 := (XrR.s (SR.x (e_ := 0) (by repeat (first | exact hR | refine SR.i ?_ rfl | refine SR.a ?_ rfl)))).wd (x := 13) (by decide)
            rcases hb41 with ⟨rfl, hk41⟩ | ⟨rfl, hk41⟩
            · dsimp only [Option.toList, List.cons_append, List.nil_append, Nat.beq, gI_sI, gI_sL, gI_sA, gI_sM, gL_sI, gL_sL, gL_sA, gL_sM, aI_sI, aI_sL, aI_sA, aI_sM, aL_sI, aL_sL, aL_sA, aL_sM]
              have hc41 : codY z.1 = 63 := he41.mp hk41
              refine ⟨fun h42 => absurd h42 (by decide), fun h42 => ?_⟩
              clear h42
              refine hB _ _ _ _ _ (fun m43 hm43 => ?_)
              dsimp only [ugo, uwp, ust, uct, rfd, Bpiece, Nat.beq, lv_args, rlk, rs1, rs2, rdl, rky, rcd, rno, rsw, Value.category, List.filter, List.take, List.drop, List.reverse, List.reverseAux, List.cons_append, List.nil_append, Option.toList, Int.toNat, Int.reduceToNat, if_pos, if_neg, reduceIte, ↓reduceIte, Nat.reduceAdd, Nat.reduceEqDiff, Nat.reduceBEq, beq_self_eq_true, Bool.not_true, Bool.not_false, Bool.and_true, Bool.and_false, Bool.true_and, Bool.false_and, gI_sI, gI_sL, gI_sA, gI_sM, gL_sI, gL_sL, gL_sA, gL_sM, aI_sI, aI_sL, aI_sA, aI_sM, aL_sI, aL_sL, aL_sA, aL_sM, Bpiece_0, Bpiece_20, Bpiece_29, Bpiece_35, Bpiece_42, Bpiece_49, Bpiece_53, Bpiece_54, Bpiece_60, Bpiece_69, Bpiece_74, Bpiece_83, Bpiece_92, Bpiece_97, Bpiece_104, Bpiece_109, Bpiece_116, Bpiece_123, Bpiece_127, Bpiece_128, oi_1, oi_12, oi_125, oi_13, oi_8]; try dsimp only
              refine ⟨trivial, fun w44 τ44 hq44 => ?_⟩
              obtain ⟨hq44, hL44⟩ := hq44
              have hq44 := hq44 N z n G a ⟨hR, hop, h8a, by omega, hZ, hK⟩
              rcases hq44 with ⟨rfl, hF44⟩ | ⟨rfl, hR44, hg44, hf44, hZ44, hK44⟩
              · dsimp only [Option.toList, List.cons_append, List.nil_append, Nat.beq, gI_sI, gI_sL, gI_sA, gI_sM, gL_sI, gL_sL, gL_sA, gL_sM, aI_sI, aI_sL, aI_sA, aI_sM, aL_sI, aL_sL, aL_sA, aL_sM]
                unfold Qv_pieceZ
                try dsimp only
                rw [(by obtain ⟨k_, j, c, x, out⟩ := a; have e : k_ = 8 := h8a; subst e; exact pc_casM ha.1 ha.2 (SR.z hR) (by omega) : pcM N (a :: G) n z = sfM N (paF a (snM z) :: G) n (csM N (a.2.2.1.2 : Int) n z))]
                refine StZ.o (T := sfY (a.1 :: G.map (·.1)) n (casY n z.1)) (by rw [lf_sf _ (Wf_pa h011 hw), lf_cs]; rfl) ?_
                exact StQ.f hF44 (gd_sf _ _ _)
              · dsimp only [Option.toList, List.cons_append, List.nil_append, Nat.beq, gI_sI, gI_sL, gI_sA, gI_sM, gL_sI, gL_sL, gL_sA, gL_sM, aI_sI, aI_sL, aI_sA, aI_sM, aL_sI, aL_sL, aL_sA, aL_sM]
                unfold Qv_pieceZ
                try dsimp only
                have hrp : rwkY (paF a (snM z)).1 := hrw
                exact Or.inr ⟨rfl, (nxM ((paF a (snM z)).2.2.2.1.getD 2 0) ((paF a (snM z)).2.2.2.1.getD 1 0).toNat (csM N (a.2.2.1.2 : Int) n z)), n, (paF a (snM z)) :: G, (by rw [lf_nx, lf_cs]; exact hR44), FgR.bf hg44 (by rw [hf44]; exact hFa) (fun _ => pa_0), BZ.nx (BZ.pa hZ44), KtR.gh hK44 nx_2.1 nx_2.2, hw, (fun q => by have q : a.1 = 7 := q; unfold rwkY at hrw; omega), (by rw [lf_nx, lf_cs]; exact GpY.a1 (by repeat (first | with_reducible exact GpY.rf | with_reducible refine GpY.tr ?_ (gd_fo _) | with_reducible refine GpY.tr ?_ (gd_ef _) | with_reducible refine GpY.tr ?_ (gd_cf _) | with_reducible refine GpY.tr ?_ (gd_wt _) | with_reducible refine GpY.tr ?_ (gd_xp _) | with_reducible refine GpY.tr ?_ (gd_acc _) | with_reducible refine GpY.tr ?_ (gd_rai _) | with_reducible refine GpY.tr ?_ (gd_e _) | with_reducible refine GpY.tr ?_ (gd_o _) | with_reducible refine GpY.tr ?_ (gd_c _) | with_reducible refine GpY.tr ?_ (gd_op _) | with_reducible refine GpY.tr ?_ (gd_clp gd_e _ _) | with_reducible refine GpY.tr ?_ (gd_tl _) | with_reducible refine GpY.tr ?_ (gd_sf _ _ _) | with_reducible refine GpY.tr ?_ (gd_cl _) | with_reducible refine GpY.tr ?_ (gd_pc _) | with_reducible refine GpY.tr ?_ (gd_st _) | with_reducible refine GpY.tr ?_ (gd_rw _) | with_reducible refine GpY.tr ?_ (gd_typ _) | with_reducible refine GpY.tr ?_ (gd_dcl _) | with_reducible refine GpY.tr ?_ (gd_va2 _) | with_reducible refine GpY.tr ?_ (gd_cnd _) | with_reducible refine GpY.tr ?_ (gd_tr1 _) | with_reducible refine GpY.tr ?_ (gd_tr2 (fun _ => gd_rw) _) | with_reducible refine GpY.tr ?_ (gd_tr3 (fun _ => gd_rw) _) | with_reducible refine GpY.tr ?_ (gd_fo1 _) | with_reducible refine GpY.tr ?_ (gd_fo2 _) | with_reducible refine GpY.tr ?_ (gd_fo3 _) | with_reducible refine GpY.tr ?_ (gd_fex _) | with_reducible refine GpY.tr ?_ (gp_varZ) | with_reducible refine GpY.tr ?_ (gp_casZ) | exact GpY.rf)) hR.1.a5.2 ha1), (sf_rowM hrp).symm.trans ((by obtain ⟨k_, j, c, x, out⟩ := a; have e : k_ = 8 := h8a; subst e; exact pc_casM ha.1 ha.2 (SR.z hR) (by omega) : pcM N (a :: G) n z = sfM N (paF a (snM z) :: G) n (csM N (a.2.2.1.2 : Int) n z))).symm⟩
            · dsimp only [Option.toList, List.cons_append, List.nil_append, Nat.beq, gI_sI, gI_sL, gI_sA, gI_sM, gL_sI, gL_sL, gL_sA, gL_sM, aI_sI, aI_sL, aI_sA, aI_sM, aL_sI, aL_sL, aL_sA, aL_sM]
              have hc41 : ¬ codY z.1 = 63 := fun q => hk41 (he41.mpr q)
              refine ⟨fun h45 => ?_, fun h45 => absurd h45 (by decide)⟩
              clear h45
              refine hB _ _ _ _ _ (fun m46 hm46 => ?_)
              dsimp only [ugo, uwp, ust, uct, rfd, Bpiece, Nat.beq, lv_args, rlk, rs1, rs2, rdl, rky, rcd, rno, rsw, Value.category, List.filter, List.take, List.drop, List.reverse, List.reverseAux, List.cons_append, List.nil_append, Option.toList, Int.toNat, Int.reduceToNat, if_pos, if_neg, reduceIte, ↓reduceIte, Nat.reduceAdd, Nat.reduceEqDiff, Nat.reduceBEq, beq_self_eq_true, Bool.not_true, Bool.not_false, Bool.and_true, Bool.and_false, Bool.true_and, Bool.false_and, gI_sI, gI_sL, gI_sA, gI_sM, gL_sI, gL_sL, gL_sA, gL_sM, aI_sI, aI_sL, aI_sA, aI_sM, aL_sI, aL_sL, aL_sA, aL_sM, Bpiece_0, Bpiece_20, Bpiece_29, Bpiece_35, Bpiece_42, Bpiece_49, Bpiece_53, Bpiece_54, Bpiece_60, Bpiece_69, Bpiece_74, Bpiece_83, Bpiece_92, Bpiece_97, Bpiece_104, Bpiece_109, Bpiece_116, Bpiece_123, Bpiece_127, Bpiece_128, oi_1, oi_12, oi_125, oi_13, oi_8]; try dsimp only
              refine ⟨trivial, fun w47 τ47 hq47 => ?_⟩
              obtain ⟨hq47, hL47⟩ := hq47
              obtain ⟨rfl, hb47⟩ := hq47 trivial
              rcases hb47 with ⟨rfl, hc47⟩ | ⟨rfl, hc47⟩
              · dsimp only [Option.toList, List.cons_append, List.nil_append, Nat.beq, gI_sI, gI_sL, gI_sA, gI_sM, gL_sI, gL_sL, gL_sA, gL_sM, aI_sI, aI_sL, aI_sA, aI_sM, aL_sI, aL_sL, aL_sA, aL_sM]
                refine ⟨fun h48 => ?_, fun h48 => absurd h48 (by decide)⟩
                clear h48
                refine hB _ _ _ _ _ (fun m49 hm49 => ?_)
                dsimp only [ugo, uwp, ust, uct, rfd, Bpiece, Nat.beq, lv_args, rlk, rs1, rs2, rdl, rky, rcd, rno, rsw, Value.category, List.filter, List.take, List.drop, List.reverse, List.reverseAux, List.cons_append, List.nil_append, Option.toList, Int.toNat, Int.reduceToNat, if_pos, if_neg, reduceIte, ↓reduceIte, Nat.reduceAdd, Nat.reduceEqDiff, Nat.reduceBEq, beq_self_eq_true, Bool.not_true, Bool.not_false, Bool.and_true, Bool.and_false, Bool.true_and, Bool.false_and, gI_sI, gI_sL, gI_sA, gI_sM, gL_sI, gL_sL, gL_sA, gL_sM, aI_sI, aI_sL, aI_sA, aI_sM, aL_sI, aL_sL, aL_sA, aL_sM, Bpiece_0, Bpiece_20, Bpiece_29, Bpiece_35, Bpiece_42, Bpiece_49, Bpiece_53, Bpiece_54, Bpiece_60, Bpiece_69, Bpiece_74, Bpiece_83, Bpiece_92, Bpiece_97, Bpiece_104, Bpiece_109, Bpiece_116, Bpiece_123, Bpiece_127, Bpiece_128, oi_1, oi_12, oi_125, oi_13, oi_8]; try dsimp only
                obtain ⟨hb0, hg0⟩ := Fg_yes hg hop hT8 hc47
                have hx0 : 0 ≤ a.2.2.2.1.getD 0 0 := by
                  have hb0 : (if a.2.2.2.1.getD 0 0 < 0 then (1 : Int) else 0) = 0 := hb0
                  by_cases q : a.2.2.2.1.getD 0 0 < 0
                  · rw [if_pos q] at hb0; exact absurd hb0 (by decide)
                  · omega
                refine ⟨trivial, fun w50 τ50 hq50 => ?_⟩
                obtain ⟨hq50, hL50⟩ := hq50
                have hq50 := hq50 _ z.1 n (SR.x (e_ := 0) (by repeat (first | exact hR | refine SR.i ?_ rfl | refine SR.a ?_ rfl)))
                obtain ⟨rfl, hb50⟩ := hq50
                rcases hb50 with ⟨rfl, hc50⟩ | ⟨rfl, hc50⟩
                · dsimp only [Option.toList, List.cons_append, List.nil_append, Nat.beq, gI_sI, gI_sL, gI_sA, gI_sM, gL_sI, gL_sL, gL_sA, gL_sM, aI_sI, aI_sL, aI_sA, aI_sM, aL_sI, aL_sL, aL_sA, aL_sM]
                  refine ⟨fun h51 => absurd h51 (by decide), fun h51 => ?_⟩
                  clear h51
                  refine hB _ _ _ _ _ (fun m52 hm52 => ?_)
                  dsimp only [ugo, uwp, ust, uct, rfd, Bpiece, Nat.beq, lv_args, rlk, rs1, rs2, rdl, rky, rcd, rno, rsw, Value.category, List.filter, List.take, List.drop, List.reverse, List.reverseAux, List.cons_append, List.nil_append, Option.toList, Int.toNat, Int.reduceToNat, if_pos, if_neg, reduceIte, ↓reduceIte, Nat.reduceAdd, Nat.reduceEqDiff, Nat.reduceBEq, beq_self_eq_true, Bool.not_true, Bool.not_false, Bool.and_true, Bool.and_false, Bool.true_and, Bool.false_and, gI_sI, gI_sL, gI_sA, gI_sM, gL_sI, gL_sL, gL_sA, gL_sM, aI_sI, aI_sL, aI_sA, aI_sM, aL_sI, aL_sL, aL_sA, aL_sM, Bpiece_0, Bpiece_20, Bpiece_29, Bpiece_35, Bpiece_42, Bpiece_49, Bpiece_53, Bpiece_54, Bpiece_60, Bpiece_69, Bpiece_74, Bpiece_83, Bpiece_92, Bpiece_97, Bpiece_104, Bpiece_109, Bpiece_116, Bpiece_123, Bpiece_127, Bpiece_128, oi_1, oi_12, oi_125, oi_13, oi_8]; try dsimp only
                  refine ⟨trivial, fun w53 τ53 hq53 => ?_⟩
                  obtain ⟨hq53, hL53⟩ := hq53
                  have hq53 := hq53 N z n G a ⟨hR, hg0, (by rw [hFq]; exact List.cons_ne_nil _ _), hZ, hK, hrw, hop⟩
                  rcases hq53 with ⟨rfl, hF53⟩ | ⟨rfl, hR53, hg53, hf53, hZ53, hK53⟩
                  · dsimp only [Option.toList, List.cons_append, List.nil_append, Nat.beq, gI_sI, gI_sL, gI_sA, gI_sM, gL_sI, gL_sL, gL_sA, gL_sM, aI_sI, aI_sL, aI_sA, aI_sM, aL_sI, aL_sL, aL_sA, aL_sM]
                    refine hB _ _ _ _ _ (fun m54 hm54 => ?_)
                    dsimp only [ugo, uwp, ust, uct, rfd, Bpiece, Nat.beq, lv_args, rlk, rs1, rs2, rdl, rky, rcd, rno, rsw, Value.category, List.filter, List.take, List.drop, List.reverse, List.reverseAux, List.cons_append, List.nil_append, Option.toList, Int.toNat, Int.reduceToNat, if_pos, if_neg, reduceIte, ↓reduceIte, Nat.reduceAdd, Nat.reduceEqDiff, Nat.reduceBEq, beq_self_eq_true, Bool.not_true, Bool.not_false, Bool.and_true, Bool.and_false, Bool.true_and, Bool.false_and, gI_sI, gI_sL, gI_sA, gI_sM, gL_sI, gL_sL, gL_sA, gL_sM, aI_sI, aI_sL, aI_sA, aI_sM, aL_sI, aL_sL, aL_sA, aL_sM, Bpiece_0, Bpiece_20, Bpiece_29, Bpiece_35, Bpiece_42, Bpiece_49, Bpiece_53, Bpiece_54, Bpiece_60, Bpiece_69, Bpiece_74, Bpiece_83, Bpiece_92, Bpiece_97, Bpiece_104, Bpiece_109, Bpiece_116, Bpiece_123, Bpiece_127, Bpiece_128, oi_1, oi_12, oi_125, oi_13, oi_8]; try dsimp only
                    unfold Qv_pieceZ
                    try dsimp only
                    rw [pc_toM hrw ha.1 ha.2 (SR.z hR) (fun _ => hx0) (by assumption)]
                    refine StZ.o (T := sfY (a.1 :: G.map (·.1)) n (xpY 4 (varY n z.1))) (by rw [lf_sf _ (Wf_pa h011 hw), lf_to]; rfl) ?_
                    exact StQ.f hF53 (gd_sf _ _ _)
                  · dsimp only [Option.toList, List.cons_append, List.nil_append, Nat.beq, gI_sI, gI_sL, gI_sA, gI_sM, gL_sI, gL_sL, gL_sA, gL_sM, aI_sI, aI_sL, aI_sA, aI_sM, aL_sI, aL_sL, aL_sA, aL_sM]
                    refine hB _ _ _ _ _ (fun m55 hm55 => ?_)
                    dsimp only [ugo, uwp, ust, uct, rfd, Bpiece, Nat.beq, lv_args, rlk, rs1, rs2, rdl, rky, rcd, rno, rsw, Value.category, List.filter, List.take, List.drop, List.reverse, List.reverseAux, List.cons_append, List.nil_append, Option.toList, Int.toNat, Int.reduceToNat, if_pos, if_neg, reduceIte, ↓reduceIte, Nat.reduceAdd, Nat.reduceEqDiff, Nat.reduceBEq, beq_self_eq_true, Bool.not_true, Bool.not_false, Bool.and_true, Bool.and_false, Bool.true_and, Bool.false_and, gI_sI, gI_sL, gI_sA, gI_sM, gL_sI, gL_sL, gL_sA, gL_sM, aI_sI, aI_sL, aI_sA, aI_sM, aL_sI, aL_sL, aL_sA, aL_sM, Bpiece_0, Bpiece_20, Bpiece_29, Bpiece_35, Bpiece_42, Bpiece_49, Bpiece_53, Bpiece_54, Bpiece_60, Bpiece_69, Bpiece_74, Bpiece_83, Bpiece_92, Bpiece_97, Bpiece_104, Bpiece_109, Bpiece_116, Bpiece_123, Bpiece_127, Bpiece_128, oi_1, oi_12, oi_125, oi_13, oi_8]; try dsimp only
                    unfold Qv_pieceZ
                    try dsimp only
                    have hrp : rwkY (paF a (snM z)).1 := hrw
                    exact Or.inr ⟨rfl, (nxM ((paF a (snM z)).2.2.2.1.getD 2 0) ((paF a (snM z)).2.2.2.1.getD 1 0).toNat (toM N n z)), n, (paF a (snM z)) :: G, (by rw [lf_nx, lf_to]; exact hR53), FgR.bf hg53 (by rw [hf53]; exact hFa) (fun _ => pa_0), BZ.nx (BZ.pa hZ53), KtR.gh hK53 nx_2.1 nx_2.2, hw, (fun q => by have q : a.1 = 7 := q; unfold rwkY at hrw; omega), (by rw [lf_nx, lf_to]; exact GpY.a1 (by repeat (first | with_reducible exact GpY.rf | with_reducible refine GpY.tr ?_ (gd_fo _) | with_reducible refine GpY.tr ?_ (gd_ef _) | with_reducible refine GpY.tr ?_ (gd_cf _) | with_reducible refine GpY.tr ?_ (gd_wt _) | with_reducible refine GpY.tr ?_ (gd_xp _) | with_reducible refine GpY.tr ?_ (gd_acc _) | with_reducible refine GpY.tr ?_ (gd_rai _) | with_reducible refine GpY.tr ?_ (gd_e _) | with_reducible refine GpY.tr ?_ (gd_o _) | with_reducible refine GpY.tr ?_ (gd_c _) | with_reducible refine GpY.tr ?_ (gd_op _) | with_reducible refine GpY.tr ?_ (gd_clp gd_e _ _) | with_reducible refine GpY.tr ?_ (gd_tl _) | with_reducible refine GpY.tr ?_ (gd_sf _ _ _) | with_reducible refine GpY.tr ?_ (gd_cl _) | with_reducible refine GpY.tr ?_ (gd_pc _) | with_reducible refine GpY.tr ?_ (gd_st _) | with_reducible refine GpY.tr ?_ (gd_rw _) | with_reducible refine GpY.tr ?_ (gd_typ _) | with_reducible refine GpY.tr ?_ (gd_dcl _) | with_reducible refine GpY.tr ?_ (gd_va2 _) | with_reducible refine GpY.tr ?_ (gd_cnd _) | with_reducible refine GpY.tr ?_ (gd_tr1 _) | with_reducible refine GpY.tr ?_ (gd_tr2 (fun _ => gd_rw) _) | with_reducible refine GpY.tr ?_ (gd_tr3 (fun _ => gd_rw) _) | with_reducible refine GpY.tr ?_ (gd_fo1 _) | with_reducible refine GpY.tr ?_ (gd_fo2 _) | with_reducible refine GpY.tr ?_ (gd_fo3 _) | with_reducible refine GpY.tr ?_ (gd_fex _) | with_reducible refine GpY.tr ?_ (gp_varZ) | with_reducible refine GpY.tr ?_ (gp_casZ) | exact GpY.rf)) hR.1.a5.2 ha1), (sf_rowM hrp).symm.trans (pc_toM hrw ha.1 ha.2 (SR.z hR) (fun _ => hx0) (by assumption)).symm⟩
                · dsimp only [Option.toList, List.cons_append, List.nil_append, Nat.beq, gI_sI, gI_sL, gI_sA, gI_sM, gL_sI, gL_sL, gL_sA, gL_sM, aI_sI, aI_sL, aI_sA, aI_sM, aL_sI, aL_sL, aL_sA, aL_sM]
                  refine ⟨fun h56 => ?_, fun h56 => absurd h56 (by decide)⟩
                  clear h56
                  refine hB _ _ _ _ _ (fun m57 hm57 => ?_)
                  dsimp only [ugo, uwp, ust, uct, rfd, Bpiece, Nat.beq, lv_args, rlk, rs1, rs2, rdl, rky, rcd, rno, rsw, Value.category, List.filter, List.take, List.drop, List.reverse, List.reverseAux, List.cons_append, List.nil_append, Option.toList, Int.toNat, Int.reduceToNat, if_pos, if_neg, reduceIte, ↓reduceIte, Nat.reduceAdd, Nat.reduceEqDiff, Nat.reduceBEq, beq_self_eq_true, Bool.not_true, Bool.not_false, Bool.and_true, Bool.and_false, Bool.true_and, Bool.false_and, gI_sI, gI_sL, gI_sA, gI_sM, gL_sI, gL_sL, gL_sA, gL_sM, aI_sI, aI_sL, aI_sA, aI_sM, aL_sI, aL_sL, aL_sA, aL_sM, Bpiece_0, Bpiece_20, Bpiece_29, Bpiece_35, Bpiece_42, Bpiece_49, Bpiece_53, Bpiece_54, Bpiece_60, Bpiece_69, Bpiece_74, Bpiece_83, Bpiece_92, Bpiece_97, Bpiece_104, Bpiece_109, Bpiece_116, Bpiece_123, Bpiece_127, Bpiece_128, oi_1, oi_12, oi_125, oi_13, oi_8]; try dsimp only
                  refine ⟨trivial, fun w58 τ58 hq58 => ?_⟩
                  obtain ⟨hq58, hL58⟩ := hq58
                  have hq58 : StZ N τ58 _ w58 := hq58 N z n (paF a (snM z) :: G) ⟨hR, hg0, (by rw [hFq]; exact List.cons_ne_nil _ _), BZ.pa hZ, hK, Wf_pa h011 hw, (fun q => by have q : a.1 = 7 := q; exact hLu q), ha1⟩
                  have hv58 : w58 = some (.int 0) ∨ w58 = some (.int 1) := hq58.imp (fun q => q.1) (fun q => q.1)
                  rcases hv58 with rfl | rfl
                  · dsimp only [Option.toList, List.cons_append, List.nil_append, Nat.beq, gI_sI, gI_sL, gI_sA, gI_sM, gL_sI, gL_sL, gL_sA, gL_sM, aI_sI, aI_sL, aI_sA, aI_sM, aL_sI, aL_sL, aL_sA, aL_sM]
                    refine hB _ _ _ _ _ (fun m59 hm59 => ?_)
                    dsimp only [ugo, uwp, ust, uct, rfd, Bpiece, Nat.beq, lv_args, rlk, rs1, rs2, rdl, rky, rcd, rno, rsw, Value.category, List.filter, List.take, List.drop, List.reverse, List.reverseAux, List.cons_append, List.nil_append, Option.toList, Int.toNat, Int.reduceToNat, if_pos, if_neg, reduceIte, ↓reduceIte, Nat.reduceAdd, Nat.reduceEqDiff, Nat.reduceBEq, beq_self_eq_true, Bool.not_true, Bool.not_false, Bool.and_true, Bool.and_false, Bool.true_and, Bool.false_and, gI_sI, gI_sL, gI_sA, gI_sM, gL_sI, gL_sL, gL_sA, gL_sM, aI_sI, aI_sL, aI_sA, aI_sM, aL_sI, aL_sL, aL_sA, aL_sM, Bpiece_0, Bpiece_20, Bpiece_29, Bpiece_35, Bpiece_42, Bpiece_49, Bpiece_53, Bpiece_54, Bpiece_60, Bpiece_69, Bpiece_74, Bpiece_83, Bpiece_92, Bpiece_97, Bpiece_104, Bpiece_109, Bpiece_116, Bpiece_123, Bpiece_127, Bpiece_128, oi_1, oi_12, oi_125, oi_13, oi_8]; try dsimp only
                    unfold Qv_pieceZ
                    try dsimp only
                    rw [pc_staM hrw ha.1 ha.2 (SR.z hR) (fun _ => ⟨hx0, by assumption, by assumption⟩) (by assumption) (by assumption)]
                    exact hq58
                  · dsimp only [Option.toList, List.cons_append, List.nil_append, Nat.beq, gI_sI, gI_sL, gI_sA, gI_sM, gL_sI, gL_sL, gL_sA, gL_sM, aI_sI, aI_sL, aI_sA, aI_sM, aL_sI, aL_sL, aL_sA, aL_sM]
                    refine hB _ _ _ _ _ (fun m60 hm60 => ?_)
                    dsimp only [ugo, uwp, ust, uct, rfd, Bpiece, Nat.beq, lv_args, rlk, rs1, rs2, rdl, rky, rcd, rno, rsw, Value.category, List.filter, List.take, List.drop, List.reverse, List.reverseAux, List.cons_append, List.nil_append, Option.toList, Int.toNat, Int.reduceToNat, if_pos, if_neg, reduceIte, ↓reduceIte, Nat.reduceAdd, Nat.reduceEqDiff, Nat.reduceBEq, beq_self_eq_true, Bool.not_true, Bool.not_false, Bool.and_true, Bool.and_false, Bool.true_and, Bool.false_and, gI_sI, gI_sL, gI_sA, gI_sM, gL_sI, gL_sL, gL_sA, gL_sM, aI_sI, aI_sL, aI_sA, aI_sM, aL_sI, aL_sL, aL_sA, aL_sM, Bpiece_0, Bpiece_20, Bpiece_29, Bpiece_35, Bpiece_42, Bpiece_49, Bpiece_53, Bpiece_54, Bpiece_60, Bpiece_69, Bpiece_74, Bpiece_83, Bpiece_92, Bpiece_97, Bpiece_104, Bpiece_109, Bpiece_116, Bpiece_123, Bpiece_127, Bpiece_128, oi_1, oi_12, oi_125, oi_13, oi_8]; try dsimp only
                    unfold Qv_pieceZ
                    try dsimp only
                    rw [pc_staM hrw ha.1 ha.2 (SR.z hR) (fun _ => ⟨hx0, by assumption, by assumption⟩) (by assumption) (by assumption)]
                    exact hq58
              · dsimp only [Option.toList, List.cons_append, List.nil_append, Nat.beq, gI_sI, gI_sL, gI_sA, gI_sM, gL_sI, gL_sL, gL_sA, gL_sM, aI_sI, aI_sL, aI_sA, aI_sM, aL_sI, aL_sL, aL_sA, aL_sM]
                refine ⟨fun h61 => absurd h61 (by decide), fun h61 => ?_⟩
                clear h61
                refine hB _ _ _ _ _ (fun m62 hm62 => ?_)
                dsimp only [ugo, uwp, ust, uct, rfd, Bpiece, Nat.beq, lv_args, rlk, rs1, rs2, rdl, rky, rcd, rno, rsw, Value.category, List.filter, List.take, List.drop, List.reverse, List.reverseAux, List.cons_append, List.nil_append, Option.toList, Int.toNat, Int.reduceToNat, if_pos, if_neg, reduceIte, ↓reduceIte, Nat.reduceAdd, Nat.reduceEqDiff, Nat.reduceBEq, beq_self_eq_true, Bool.not_true, Bool.not_false, Bool.and_true, Bool.and_false, Bool.true_and, Bool.false_and, gI_sI, gI_sL, gI_sA, gI_sM, gL_sI, gL_sL, gL_sA, gL_sM, aI_sI, aI_sL, aI_sA, aI_sM, aL_sI, aL_sL, aL_sA, aL_sM, Bpiece_0, Bpiece_20, Bpiece_29, Bpiece_35, Bpiece_42, Bpiece_49, Bpiece_53, Bpiece_54, Bpiece_60, Bpiece_69, Bpiece_74, Bpiece_83, Bpiece_92, Bpiece_97, Bpiece_104, Bpiece_109, Bpiece_116, Bpiece_123, Bpiece_127, Bpiece_128, oi_1, oi_12, oi_125, oi_13, oi_8]; try dsimp only
                refine ⟨trivial, fun w63 τ63 hq63 => ?_⟩
                obtain ⟨hq63, hL63⟩ := hq63
                have hq63 := hq63 z.1 (XrR.s (SR.x (e_ := 0) (by repeat (first | exact hR | refine SR.i ?_ rfl | refine SR.a ?_ rfl))))
                obtain ⟨rfl, hF63⟩ := hq63
                dsimp only [Option.toList, List.cons_append, List.nil_append, Nat.beq, gI_sI, gI_sL, gI_sA, gI_sM, gL_sI, gL_sL, gL_sA, gL_sM, aI_sI, aI_sL, aI_sA, aI_sM, aL_sI, aL_sL, aL_sA, aL_sM]
                unfold Qv_pieceZ
                try dsimp only
                have hb1 := Fg_no hg hop hT8 hc47
                have hb1 : (if a.2.2.2.1.getD 0 0 < 0 then (1 : Int) else 0) = 1 := hb1
                have hx1 : a.2.2.2.1.getD 0 0 < 0 := by
                  by_cases q : a.2.2.2.1.getD 0 0 < 0
                  · exact q
                  · rw [if_neg q] at hb1; exact absurd hb1 (by decide)
                refine StZ.o (lf_pcM h011 hw) ?_
                rw [if_pos hx1]
                show StQ _ (pcY 1 (a.1 :: G.map (·.1)) n z.1) _
                rw [h8a]
                exact StQ.f hF63 (pc_sw0 ha.1 ha.2 (SR.z hR) (by assumption) ⟨by assumption, by assumption⟩)
  next => exact hP.elim
theorem w_pieceZ : UMet 44 (fun _ _ => True) Qw_pieceZ := fun A1 σ _ w τ h N z n F hP => v_pieceZ N z n F A1 σ hP w τ h
