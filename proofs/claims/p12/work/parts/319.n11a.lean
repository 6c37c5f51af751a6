def Pv_paramZ (N : Int → Int) (z : ZS) (i kn : Nat) : UP1 := fun A1 σ => match A1 with
  | [.int m, .int k] => PaR σ z.1 i ∧ m = gI σ 36 ∧ PZ N σ z kn ∧ k.toInt = (kn : Int)
  | _ => False
def Qv_paramZ (N : Int → Int) (z : ZS) (i kn : Nat) : UQ1 := fun A1 σ w τ => match A1 with
  | [.int m, .int k] => (w = some (.int 0) ∧ FlR τ (pa1Y i z.1)) ∨ (w = some (.int 1) ∧ i < 6 ∧ PaR τ (pa1Y i z.1) (i + 1) ∧ gI τ 36 = gI σ 36 ∧ gI τ 49 = gI σ 49 ∧ aI τ 37 = aI σ 37 ∧ PZ N τ (pa1M N i z) kn)
  | _ => False
def Qw_paramZ : UQ1 := fun A1 σ w τ => ∀ (N : Int → Int) (z : ZS) (i kn : Nat), Pv_paramZ N z i kn A1 σ → Qv_paramZ N z i kn A1 σ w τ
set_option maxRecDepth 100000 in
set_option maxHeartbeats 4000000 in
theorem v_paramZ (N : Int → Int) (z : ZS) (i kn : Nat) : UMet 39 (Pv_paramZ N z i kn) (Qv_paramZ N z i kn) := by
  refine UMet.by Bparam [(13, (fun _ _ => True), (LqR Qw_cant)), (23, (fun _ _ => True), (LqR Qw_isType)), (15, (fun _ _ => True), (LqR Qw_isWord)), (17, (fun _ _ => True), (LqR Qw_take)), (40, (fun _ _ => True), (LqR Qw_variableZ)), (12, (fun _ _ => True), (LqR Qw_wrong))] rfl (ucc (UMet.aL ck_P rfl w_cant) (ucc (UMet.aL ck_P rfl w_isType) (ucc (UMet.aL ck_P rfl w_isWord) (ucc (UMet.aL ck_P rfl w_take) (ucc (UMet.aL ck_P rfl w_variableZ) (ucc (UMet.aL ck_P rfl w_wrong) uc0)))))) ?_
  intro A1 σ hP K hB hW
  unfold Pv_paramZ at hP
  split at hP
  next m k =>
    obtain ⟨hP, hm, hPz, hkk⟩ := hP
    intro n0_
    refine hB _ _ _ _ _ (fun m1 hm1 => ?_)
    dsimp only [ugo, uwp, ust, uct, rfd, Bparam, Nat.beq, lv_args, rlk, rs1, rs2, rdl, rky, rcd, rno, rsw, Value.category, List.filter, List.take, List.drop, List.reverse, List.reverseAux, List.cons_append, List.nil_append, Option.toList, Int.toNat, Int.reduceToNat, if_pos, if_neg, reduceIte, ↓reduceIte, Nat.reduceAdd, Nat.reduceEqDiff, Nat.reduceBEq, beq_self_eq_true, Bool.not_true, Bool.not_false, Bool.and_true, Bool.and_false, Bool.true_and, Bool.false_and, gI_sI, gI_sL, gI_sA, gI_sM, gL_sI, gL_sL, gL_sA, gL_sM, aI_sI, aI_sL, aI_sA, aI_sM, aL_sI, aL_sL, aL_sA, aL_sM, Bparam_0, Bparam_11, Bparam_18, Bparam_20, Bparam_31, Bparam_36, Bparam_54, Bparam_56, Bparam_69, Bparam_74, Bparam_85, Bparam_95, oi_0, oi_1, oi_21, oi_3, oi_6]; try dsimp only
    refine ⟨trivial, fun w2 τ2 hq2 => ?_⟩
    obtain ⟨hq2, hL2⟩ := hq2
    obtain ⟨rfl, b2, rfl, hb2⟩ := hq2 trivial
    have he2 := (XrR.s (PaR.x hP)).wd (x := 21) (by decide)
    rcases hb2 with ⟨rfl, hk2⟩ | ⟨rfl, hk2⟩
    · dsimp only [Option.toList, List.cons_append, List.nil_append, Nat.beq, gI_sI, gI_sL, gI_sA, gI_sM, gL_sI, gL_sL, gL_sA, gL_sM, aI_sI, aI_sL, aI_sA, aI_sM, aL_sI, aL_sL, aL_sA, aL_sM]
      have hc2 : codY z.1 = 71 := he2.mp hk2
      refine ⟨fun h3 => absurd h3 (by decide), fun h3 => ?_⟩
      clear h3
      refine hB _ _ _ _ _ (fun m4 hm4 => ?_)
      dsimp only [ugo, uwp, ust, uct, rfd, Bparam, Nat.beq, lv_args, rlk, rs1, rs2, rdl, rky, rcd, rno, rsw, Value.category, List.filter, List.take, List.drop, List.reverse, List.reverseAux, List.cons_append, List.nil_append, Option.toList, Int.toNat, Int.reduceToNat, if_pos, if_neg, reduceIte, ↓reduceIte, Nat.reduceAdd, Nat.reduceEqDiff, Nat.reduceBEq, beq_self_eq_true, Bool.not_true, Bool.not_false, Bool.and_true, Bool.and_false, Bool.true_and, Bool.false_and, gI_sI, gI_sL, gI_sA, gI_sM, gL_sI, gL_sL, gL_sA, gL_sM, aI_sI, aI_sL, aI_sA, aI_sM, aL_sI, aL_sL, aL_sA, aL_sM, Bparam_0, Bparam_11, Bparam_18, Bparam_20, Bparam_31, Bparam_36, Bparam_54, Bparam_56, Bparam_69, Bparam_74, Bparam_85, Bparam_95, oi_0, oi_1, oi_21, oi_3, oi_6]; try dsimp only
      refine ⟨trivial, fun w5 τ5 hq5 => ?_⟩
      obtain ⟨hq5, hL5⟩ := hq5
      have hq5 := hq5 _ z.1 21 ⟨(PaR.x hP), by omega, by omega⟩
      rcases hq5 with ⟨rfl, hF5⟩ | ⟨rfl, hX5, hz5, hS5⟩
      · dsimp only [Option.toList, List.cons_append, List.nil_append, Nat.beq, gI_sI, gI_sL, gI_sA, gI_sM, gL_sI, gL_sL, gL_sA, gL_sM, aI_sI, aI_sL, aI_sA, aI_sM, aL_sI, aL_sL, aL_sA, aL_sM]
        refine ⟨fun h6 => absurd h6 (by decide), fun h6 => ?_⟩
        clear h6
        refine hB _ _ _ _ _ (fun m7 hm7 => ?_)
        dsimp only [ugo, uwp, ust, uct, rfd, Bparam, Nat.beq, lv_args, rlk, rs1, rs2, rdl, rky, rcd, rno, rsw, Value.category, List.filter, List.take, List.drop, List.reverse, List.reverseAux, List.cons_append, List.nil_append, Option.toList, Int.toNat, Int.reduceToNat, if_pos, if_neg, reduceIte, ↓reduceIte, Nat.reduceAdd, Nat.reduceEqDiff, Nat.reduceBEq, beq_self_eq_true, Bool.not_true, Bool.not_false, Bool.and_true, Bool.and_false, Bool.true_and, Bool.false_and, gI_sI, gI_sL, gI_sA, gI_sM, gL_sI, gL_sL, gL_sA, gL_sM, aI_sI, aI_sL, aI_sA, aI_sM, aL_sI, aL_sL, aL_sA, aL_sM, Bparam_0, Bparam_11, Bparam_18, Bparam_20, Bparam_31, Bparam_36, Bparam_54, Bparam_56, Bparam_69, Bparam_74, Bparam_85, Bparam_95, oi_0, oi_1, oi_21, oi_3, oi_6]; try dsimp only
        unfold Qv_paramZ
        try dsimp only
        refine Or.inl ⟨rfl, FlR.g hF5 ?_⟩
        rw [pa1_1 hc2]
        exact (gd_typ _).tr (gd_pa2 _)
      · dsimp only [Option.toList, List.cons_append, List.nil_append, Nat.beq, gI_sI, gI_sL, gI_sA, gI_sM, gL_sI, gL_sL, gL_sA, gL_sM, aI_sI, aI_sL, aI_sA, aI_sM, aL_sI, aL_sL, aL_sA, aL_sM]
        have hP5 := PaR.s1 hP hX5 hS5
        have g6_5 : gI τ5 36 = gI σ 36 := (hS5.1 36 (by decide)).trans rfl
        have g9_5 : gI τ5 49 = gI σ 49 := (hS5.1 49 (by decide)).trans rfl
        have hPz5 : PZ N τ5 (accM z) kn := PZ.s1 hPz hS5 hL5 rfl kK_acc
        have hs5 : (accM z).1 = (accY z.1) := congrArg accY rfl
        have r37_5 : aI τ5 37 = aI σ 37 := (hS5.2 37).trans rfl
        refine ⟨fun h8 => ?_, fun h8 => absurd h8 (by decide)⟩
        clear h8
        refine hB _ _ _ _ _ (fun m9 hm9 => ?_)
        dsimp only [ugo, uwp, ust, uct, rfd, Bparam, Nat.beq, lv_args, rlk, rs1, rs2, rdl, rky, rcd, rno, rsw, Value.category, List.filter, List.take, List.drop, List.reverse, List.reverseAux, List.cons_append, List.nil_append, Option.toList, Int.toNat, Int.reduceToNat, if_pos, if_neg, reduceIte, ↓reduceIte, Nat.reduceAdd, Nat.reduceEqDiff, Nat.reduceBEq, beq_self_eq_true, Bool.not_true, Bool.not_false, Bool.and_true, Bool.and_false, Bool.true_and, Bool.false_and, gI_sI, gI_sL, gI_sA, gI_sM, gL_sI, gL_sL, gL_sA, gL_sM, aI_sI, aI_sL, aI_sA, aI_sM, aL_sI, aL_sL, aL_sA, aL_sM, Bparam_0, Bparam_11, Bparam_18, Bparam_20, Bparam_31, Bparam_36, Bparam_54, Bparam_56, Bparam_69, Bparam_74, Bparam_85, Bparam_95, oi_0, oi_1, oi_21, oi_3, oi_6]; try dsimp only
        refine ⟨trivial, fun w10 τ10 hq10 => ?_⟩
        obtain ⟨hq10, hL10⟩ := hq10
        obtain ⟨rfl, b10, rfl, hb10⟩ := hq10 trivial
        have he10 := (XrR.s (PaR.x hP5)).ty
        rcases hb10 with ⟨rfl, hk10⟩ | ⟨rfl, hk10⟩
        · dsimp only [Option.toList, List.cons_append, List.nil_append, Nat.beq, gI_sI, gI_sL, gI_sA, gI_sM, gL_sI, gL_sL, gL_sA, gL_sM, aI_sI, aI_sL, aI_sA, aI_sM, aL_sI, aL_sL, aL_sA, aL_sM]
          have hc10 : 50 ≤ codY (accY z.1) ∧ codY (accY z.1) ≤ 54 := he10.mp hk10
          refine ⟨fun h11 => ?_, fun h11 => absurd h11 (by decide)⟩
          clear h11
          refine hB _ _ _ _ _ (fun m12 hm12 => ?_)
          dsimp only [ugo, uwp, ust, uct, rfd, Bparam, Nat.beq, lv_args, rlk, rs1, rs2, rdl, rky, rcd, rno, rsw, Value.category, List.filter, List.take, List.drop, List.reverse, List.reverseAux, List.cons_append, List.nil_append, Option.toList, Int.toNat, Int.reduceToNat, if_pos, if_neg, reduceIte, ↓reduceIte, Nat.reduceAdd, Nat.reduceEqDiff, Nat.reduceBEq, beq_self_eq_true, Bool.not_true, Bool.not_false, Bool.and_true, Bool.and_false, Bool.true_and, Bool.false_and, gI_sI, gI_sL, gI_sA, gI_sM, gL_sI, gL_sL, gL_sA, gL_sM, aI_sI, aI_sL, aI_sA, aI_sM, aL_sI, aL_sL, aL_sA, aL_sM, Bparam_0, Bparam_11, Bparam_18, Bparam_20, Bparam_31, Bparam_36, Bparam_54, Bparam_56, Bparam_69, Bparam_74, Bparam_85, Bparam_95, oi_0, oi_1, oi_21, oi_3, oi_6]; try dsimp only
          have hty : 50 ≤ codY (accY z.1) ∧ codY (accY z.1) ≤ 54 := hc10
          have hty2 := hP5.1.ty2 (show 50 ≤ codY (accY z.1) ∧ codY (accY z.1) ≤ 55 by omega)
          have htv := (tyv_y hty).trans hty2.symm
          intro p13
          refine ⟨trivial, fun w14 τ14 hq14 => ?_⟩
          obtain ⟨hq14, hL14⟩ := hq14
          have hq14 := hq14 _ (accY z.1) 21 ⟨(PaR.x hP5), by omega, by omega⟩
          rcases hq14 with ⟨rfl, hF14⟩ | ⟨rfl, hX14, hz14, hS14⟩
          · dsimp only [Option.toList, List.cons_append, List.nil_append, Nat.beq, gI_sI, gI_sL, gI_sA, gI_sM, gL_sI, gL_sL, gL_sA, gL_sM, aI_sI, aI_sL, aI_sA, aI_sM, aL_sI, aL_sL, aL_sA, aL_sM]
            refine ⟨fun h15 => absurd h15 (by decide), fun h15 => ?_⟩
            clear h15
            refine hB _ _ _ _ _ (fun m16 hm16 => ?_)
            dsimp only [ugo, uwp, ust, uct, rfd, Bparam, Nat.beq, lv_args, rlk, rs1, rs2, rdl, rky, rcd, rno, rsw, Value.category, List.filter, List.take, List.drop, List.reverse, List.reverseAux, List.cons_append, List.nil_append, Option.toList, Int.toNat, Int.reduceToNat, if_pos, if_neg, reduceIte, ↓reduceIte, Nat.reduceAdd, Nat.reduceEqDiff, Nat.reduceBEq, beq_self_eq_true, Bool.not_true, Bool.not_false, Bool.and_true, Bool.and_false, Bool.true_and, Bool.false_and, gI_sI, gI_sL, gI_sA, gI_sM, gL_sI, gL_sL, gL_sA, gL_sM, aI_sI, aI_sL, aI_sA, aI_sM, aL_sI, aL_sL, aL_sA, aL_sM, Bparam_0, Bparam_11, Bparam_18, Bparam_20, Bparam_31, Bparam_36, Bparam_54, Bparam_56, Bparam_69, Bparam_74, Bparam_85, Bparam_95, oi_0, oi_1, oi_21, oi_3, oi_6]; try dsimp only
            unfold Qv_paramZ
            try dsimp only
            refine Or.inl ⟨rfl, FlR.g hF14 ?_⟩
            rw [pa1_1 hc2, typ_y hty]
            exact gd_pa2 _
          · dsimp only [Option.toList, List.cons_append, List.nil_append, Nat.beq, gI_sI, gI_sL, gI_sA, gI_sM, gL_sI, gL_sL, gL_sA, gL_sM, aI_sI, aI_sL, aI_sA, aI_sM, aL_sI, aL_sL, aL_sA, aL_sM]
            have hP14 := PaR.s1 hP5 hX14 hS14
            have g6_14 : gI τ14 36 = gI σ 36 := (hS14.1 36 (by decide)).trans g6_5
            have g9_14 : gI τ14 49 = gI σ 49 := (hS14.1 49 (by decide)).trans g9_5
            have hPz14 : PZ N τ14 (typM (accM z)) kn := PZ.s1 hPz5 hS14 hL14 rfl kK_typ
            have hs14 : (typM (accM z)).1 = (accY (accY z.1)) := (congrArg typY hs5).trans (typ_y hty)
            have r37_14 : aI τ14 37 = aI σ 37 := (hS14.2 37).trans r37_5
            refine ⟨fun h17 => ?_, fun h17 => absurd h17 (by decide)⟩
            clear h17
            refine hB _ _ _ _ _ (fun m18 hm18 => ?_)
            dsimp only [ugo, uwp, ust, uct, rfd, Bparam, Nat.beq, lv_args, rlk, rs1, rs2, rdl, rky, rcd, rno, rsw, Value.category, List.filter, List.take, List.drop, List.reverse, List.reverseAux, List.cons_append, List.nil_append, Option.toList, Int.toNat, Int.reduceToNat, if_pos, if_neg, reduceIte, ↓reduceIte, Nat.reduceAdd, Nat.reduceEqDiff, Nat.reduceBEq, beq_self_eq_true, Bool.not_true, Bool.not_false, Bool.and_true, Bool.and_false, Bool.true_and, Bool.false_and, gI_sI, gI_sL, gI_sA, gI_sM, gL_sI, gL_sL, gL_sA, gL_sM, aI_sI, aI_sL, aI_sA, aI_sM, aL_sI, aL_sL, aL_sA, aL_sM, Bparam_0, Bparam_11, Bparam_18, Bparam_20, Bparam_31, Bparam_36, Bparam_54, Bparam_56, Bparam_69, Bparam_74, Bparam_85, Bparam_95, oi_0, oi_1, oi_21, oi_3, oi_6]; try dsimp only
            intro p19
            refine ⟨fun h20 => ?_, fun h20 => ?_⟩
            · refine hB _ _ _ _ _ (fun m21 hm21 => ?_)
              dsimp only [ugo, uwp, ust, uct, rfd, Bparam, Nat.beq, lv_args, rlk, rs1, rs2, rdl, rky, rcd, rno, rsw, Value.category, List.filter, List.take, List.drop, List.reverse, List.reverseAux, List.cons_append, List.nil_append, Option.toList, Int.toNat, Int.reduceToNat, if_pos, if_neg, reduceIte, ↓reduceIte, Nat.reduceAdd, Nat.reduceEqDiff, Nat.reduceBEq, beq_self_eq_true, Bool.not_true, Bool.not_false, Bool.and_true, Bool.and_false, Bool.true_and, Bool.false_and, gI_sI, gI_sL, gI_sA, gI_sM, gL_sI, gL_sL, gL_sA, gL_sM, aI_sI, aI_sL, aI_sA, aI_sM, aL_sI, aL_sL, aL_sA, aL_sM, Bparam_0, Bparam_11, Bparam_18, Bparam_20, Bparam_31, Bparam_36, Bparam_54, Bparam_56, Bparam_69, Bparam_74, Bparam_85, Bparam_95, oi_0, oi_1, oi_21, oi_3, oi_6]; try dsimp only
              have hcn := hP14.1.ki.2.2.1.mp (by exact h20)
              have hm_ : m.toNatClampNeg = nT (gI τ14 36) := by rw [hm, ← g6_14]; rfl
              have hmp : aI τ14 39 m.toNatClampNeg = Int32.ofInt i := by rw [hm_]; exact hP14.2.2.2.2.2.1.2.1
              have hi7 : i ≤ 6 := hP14.2.2.2.2.2.1.2.2
              intro p22
              refine ⟨fun h23 => ?_, fun h23 => ?_⟩
              · refine hB _ _ _ _ _ (fun m24 hm24 => ?_)
                dsimp only [ugo, uwp, ust, uct, rfd, Bparam, Nat.beq, lv_args, rlk, rs1, rs2, rdl, rky, rcd, rno, rsw, Value.category, List.filter, List.take, List.drop, List.reverse, List.reverseAux, List.cons_append, List.nil_append, Option.toList, Int.toNat, Int.reduceToNat, if_pos, if_neg, reduceIte, ↓reduceIte, Nat.reduceAdd, Nat.reduceEqDiff, Nat.reduceBEq, beq_self_eq_true, Bool.not_true, Bool.not_false, Bool.and_true, Bool.and_false, Bool.true_and, Bool.false_and, gI_sI, gI_sL, gI_sA, gI_sM, gL_sI, gL_sL, gL_sA, gL_sM, aI_sI, aI_sL, aI_sA, aI_sM, aL_sI, aL_sL, aL_sA, aL_sM, Bparam_0, Bparam_11, Bparam_18, Bparam_20, Bparam_31, Bparam_36, Bparam_54, Bparam_56, Bparam_69, Bparam_74, Bparam_85, Bparam_95, oi_0, oi_1, oi_21, oi_3, oi_6]; try dsimp only
                have hi8 : ¬ i = 6 := fun q => h23 (hmp.trans ((i6 hi7).mpr q))
                have hi6 : i < 6 := by omega
                have hmi : upd (aI τ14 39) m.toNatClampNeg (aI τ14 39 m.toNatClampNeg + 1) = upd (aI τ14 39) (nT (gI τ14 36)) (Int32.ofInt i + 1) := by rw [hmp, hm_]
                intro p25
                intro p26
                refine ⟨trivial, fun w27 τ27 hq27 => ?_⟩
                obtain ⟨hq27, hL27⟩ := hq27
                have hV27 := hq27 (accY (accY z.1)) 21 ⟨(PaR.x hP14).1.kp rfl rfl rfl (aI_ne (by decide)) (aI_ne (by decide)) (aI_ne (by decide)), ⟨by show (gI τ14 17).toInt + _ = _; rw [hP14.2.1.1]; rfl, by decide⟩, by omega, ⟨(by rw [hP14.2.2.1.1]; exact (vlR_c (aI_ne (by decide)) (aI_ne (by decide)) (aI_ne (by decide)) (aI_ne (by decide)) _).symm), hP14.2.2.1.2⟩⟩
                rcases hV27 with ⟨rfl, hF27⟩ | ⟨rfl, hSh27, hz27, hl27, hva27, h47_27, h48_27⟩
                · dsimp only [Option.toList, List.cons_append, List.nil_append, Nat.beq, gI_sI, gI_sL, gI_sA, gI_sM, gL_sI, gL_sL, gL_sA, gL_sM, aI_sI, aI_sL, aI_sA, aI_sM, aL_sI, aL_sL, aL_sA, aL_sM]
                  have hF27 : FlR τ27 (dclY (aI τ5 6 (gI τ5 14).toNatClampNeg).toInt 1 1 (accY (accY z.1))) := hF27
                  unfold Qv_paramZ
                  try dsimp only
                  refine Or.inl ⟨rfl, FlR.g hF27 ?_⟩
                  rw [pa1_1 hc2, typ_y hty, htv, pa2_y hi6]
                  exact gd_pad _
                · dsimp only [Option.toList, List.cons_append, List.nil_append, Nat.beq, gI_sI, gI_sL, gI_sA, gI_sM, gL_sI, gL_sL, gL_sA, gL_sM, aI_sI, aI_sL, aI_sA, aI_sM, aL_sI, aL_sL, aL_sA, aL_sM]
                  unfold Qv_paramZ
                  try dsimp only
                  refine Or.inr ⟨rfl, hi6, ?_, (hva27.1 36 (by decide) (by decide)).trans g6_14, (hva27.1 49 (by decide) (by decide)).trans g9_14, (hva27.2.2.2.2 37 (by omega)).trans ((aI_ne (by decide)).trans r37_14), ?_⟩
                  · rw [pa1_1 hc2, typ_y hty, htv, pa2_y hi6, dcl_y (hP14.1.1.1) hcn hl27]
                    exact PaR.va hP14 hi6 (by rw [hmi] at hva27; exact hva27) hSh27
                  · have hvl : (zVs (typM (accM z)).1).length = nT (gI τ14 42) := by rw [show (typM (accM z)).1 = (accY (accY z.1)) from hs14, hP14.2.2.1.1, vlR_l]
                    rw [pa1_1M hc2, pa2_M hi6]
                    exact PZ.va hPz14 rfl hva27 h47_27 h48_27 hL27 hvl hkk
              · refine hB _ _ _ _ _ (fun m28 hm28 => ?_)
                dsimp only [ugo, uwp, ust, uct, rfd, Bparam, Nat.beq, lv_args, rlk, rs1, rs2, rdl, rky, rcd, rno, rsw, Value.category, List.filter, List.take, List.drop, List.reverse, List.reverseAux, List.cons_append, List.nil_append, Option.toList, Int.toNat, Int.reduceToNat, if_pos, if_neg, reduceIte, ↓reduceIte, Nat.reduceAdd, Nat.reduceEqDiff, Nat.reduceBEq, beq_self_eq_true, Bool.not_true, Bool.not_false, Bool.and_true, Bool.and_false, Bool.true_and, Bool.false_and, gI_sI, gI_sL, gI_sA, gI_sM, gL_sI, gL_sL, gL_sA, gL_sM, aI_sI, aI_sL, aI_sA, aI_sM, aL_sI, aL_sL, aL_sA, aL_sM, Bparam_0, Bparam_11, Bparam_18, Bparam_20, Bparam_31, Bparam_36, Bparam_54, Bparam_56, Bparam_69, Bparam_74, Bparam_85, Bparam_95, oi_0, oi_1, oi_21, oi_3, oi_6]; try dsimp only
                have hi6 := (i6 hi7).mp (hmp.symm.trans (by exact h23))
                refine ⟨trivial, fun w29 τ29 hq29 => ?_⟩
                obtain ⟨hq29, hL29⟩ := hq29
                obtain ⟨rfl, hf29⟩ := hq29 trivial
                dsimp only [Option.toList, List.cons_append, List.nil_append, Nat.beq, gI_sI, gI_sL, gI_sA, gI_sM, gL_sI, gL_sL, gL_sA, gL_sM, aI_sI, aI_sL, aI_sA, aI_sM, aL_sI, aL_sL, aL_sA, aL_sM]
                unfold Qv_paramZ
                try dsimp only
                have e := hf29 hP14.1.1.2
                subst e
                refine Or.inl ⟨rfl, ?_⟩
                rw [pa1_1 hc2, typ_y hty, pa2_n (by omega), dcl_p hcn]
                exact FlR.rai hP14.1 (by decide) (by show (3 : Int32).toInt = _; rw [if_neg (by omega)]; rfl) rfl
            · refine hB _ _ _ _ _ (fun m30 hm30 => ?_)
              dsimp only [ugo, uwp, ust, uct, rfd, Bparam, Nat.beq, lv_args, rlk, rs1, rs2, rdl, rky, rcd, rno, rsw, Value.category, List.filter, List.take, List.drop, List.reverse, List.reverseAux, List.cons_append, List.nil_append, Option.toList, Int.toNat, Int.reduceToNat, if_pos, if_neg, reduceIte, ↓reduceIte, Nat.reduceAdd, Nat.reduceEqDiff, Nat.reduceBEq, beq_self_eq_true, Bool.not_true, Bool.not_false, Bool.and_true, Bool.and_false, Bool.true_and, Bool.false_and, gI_sI, gI_sL, gI_sA, gI_sM, gL_sI, gL_sL, gL_sA, gL_sM, aI_sI, aI_sL, aI_sA, aI_sM, aL_sI, aL_sL, aL_sA, aL_sM, Bparam_0, Bparam_11, Bparam_18, Bparam_20, Bparam_31, Bparam_36, Bparam_54, Bparam_56, Bparam_69, Bparam_74, Bparam_85, Bparam_95, oi_0, oi_1, oi_21, oi_3, oi_6]; try dsimp only
              have hnn : ¬ codY (accY (accY z.1)) = 80 := fun q => h20 (hP14.1.ki.2.2.1.mpr q)
              refine ⟨trivial, fun w31 τ31 hq31 => ?_⟩
              obtain ⟨hq31, hL31⟩ := hq31
              have hq31 := hq31 (accY (accY z.1)) (XrR.s (PaR.x hP14))
              obtain ⟨rfl, hF31⟩ := hq31
              dsimp only [Option.toList, List.cons_append, List.nil_append, Nat.beq, gI_sI, gI_sL, gI_sA, gI_sM, gL_sI, gL_sL, gL_sA, gL_sM, aI_sI, aI_sL, aI_sA, aI_sM, aL_sI, aL_sL, aL_sA, aL_sM]
              unfold Qv_paramZ
              try dsimp only
              refine Or.inl ⟨rfl, FlR.g hF31 ?_⟩
              rw [pa1_1 hc2, typ_y hty]
              exact pa2_8 hnn
        · dsimp only [Option.toList, List.cons_append, List.nil_append, Nat.beq, gI_sI, gI_sL, gI_sA, gI_sM, gL_sI, gL_sL, gL_sA, gL_sM, aI_sI, aI_sL, aI_sA, aI_sM, aL_sI, aL_sL, aL_sA, aL_sM]
          have hc10 : ¬ (50 ≤ codY (accY z.1) ∧ codY (accY z.1) ≤ 54) := fun q => hk10 (he10.mpr q)
          refine ⟨fun h32 => absurd h32 (by decide), fun h32 => ?_⟩
          clear h32
          refine hB _ _ _ _ _ (fun m33 hm33 => ?_)
          dsimp only [ugo, uwp, ust, uct, rfd, Bparam, Nat.beq, lv_args, rlk, rs1, rs2, rdl, rky, rcd, rno, rsw, Value.category, List.filter, List.take, List.drop, List.reverse, List.reverseAux, List.cons_append, List.nil_append, Option.toList, Int.toNat, Int.reduceToNat, if_pos, if_neg, reduceIte, ↓reduceIte, Nat.reduceAdd, Nat.reduceEqDiff, Nat.reduceBEq, beq_self_eq_true, Bool.not_true, Bool.not_false, Bool.and_true, Bool.and_false, Bool.true_and, Bool.false_and, gI_sI, gI_sL, gI_sA, gI_sM, gL_sI, gL_sL, gL_sA, gL_sM, aI_sI, aI_sL, aI_sA, aI_sM, aL_sI, aL_sL, aL_sA, aL_sM, Bparam_0, Bparam_11, Bparam_18, Bparam_20, Bparam_31, Bparam_36, Bparam_54, Bparam_56, Bparam_69, Bparam_74, Bparam_85, Bparam_95, oi_0, oi_1, oi_21, oi_3, oi_6]; try dsimp only
          refine ⟨trivial, fun w34 τ34 hq34 => ?_⟩
          obtain ⟨hq34, hL34⟩ := hq34
          have hq34 := hq34 (accY z.1) (XrR.s (PaR.x hP5))
          obtain ⟨rfl, hF34⟩ := hq34
          dsimp only [Option.toList, List.cons_append, List.nil_append, Nat.beq, gI_sI, gI_sL, gI_sA, gI_sM, gL_sI, gL_sL, gL_sA, gL_sM, aI_sI, aI_sL, aI_sA, aI_sM, aL_sI, aL_sL, aL_sA, aL_sM]
          unfold Qv_paramZ
          try dsimp only
          refine Or.inl ⟨rfl, FlR.g hF34 ?_⟩
          rw [pa1_1 hc2, typ_n hc10]
          exact gd_pa2 _
    · dsimp only [Option.toList, List.cons_append, List.nil_append, Nat.beq, gI_sI, gI_sL, gI_sA, gI_sM, gL_sI, gL_sL, gL_sA, gL_sM, aI_sI, aI_sL, aI_sA, aI_sM, aL_sI, aL_sL, aL_sA, aL_sM]
      have hc2 : ¬ codY z.1 = 71 := fun q => hk2 (he2.mpr q)
      refine ⟨fun h35 => ?_, fun h35 => absurd h35 (by decide)⟩
      clear h35
      refine hB _ _ _ _ _ (fun m36 hm36 => ?_)
      dsimp only [ugo, uwp, ust, uct, rfd, Bparam, Nat.beq, lv_args, rlk, rs1, rs2, rdl, rky, rcd, rno, rsw, Value.category, List.filter, List.take, List.drop, List.reverse, List.reverseAux, List.cons_append, List.nil_append, Option.toList, Int.toNat, Int.reduceToNat, if_pos, if_neg, reduceIte, ↓reduceIte, Nat.reduceAdd, Nat.reduceEqDiff, Nat.reduceBEq, beq_self_eq_true, Bool.not_true, Bool.not_false, Bool.and_true, Bool.and_false, Bool.true_and, Bool.false_and, gI_sI, gI_sL, gI_sA, gI_sM, gL_sI, gL_sL, gL_sA, gL_sM, aI_sI, aI_sL, aI_sA, aI_sM, aL_sI, aL_sL, aL_sA, aL_sM, Bparam_0, Bparam_11, Bparam_18, Bparam_20, Bparam_31, Bparam_36, Bparam_54, Bparam_56, Bparam_69, Bparam_74, Bparam_85, Bparam_95, oi_0, oi_1, oi_21, oi_3, oi_6]; try dsimp only
      refine ⟨trivial, fun w37 τ37 hq37 => ?_⟩
      obtain ⟨hq37, hL37⟩ := hq37
      obtain ⟨rfl, b37, rfl, hb37⟩ := hq37 trivial
      have he37 := (XrR.s (PaR.x hP)).ty
      rcases hb37 with ⟨rfl, hk37⟩ | ⟨rfl, hk37⟩
      · dsimp only [Option.toList, List.cons_append, List.nil_append, Nat.beq, gI_sI, gI_sL, gI_sA, gI_sM, gL_sI, gL_sL, gL_sA, gL_sM, aI_sI, aI_sL, aI_sA, aI_sM, aL_sI, aL_sL, aL_sA, aL_sM]
        have hc37 : 50 ≤ codY z.1 ∧ codY z.1 ≤ 54 := he37.mp hk37
        refine ⟨fun h38 => ?_, fun h38 => absurd h38 (by decide)⟩
        clear h38
        refine hB _ _ _ _ _ (fun m39 hm39 => ?_)
        dsimp only [ugo, uwp, ust, uct, rfd, Bparam, Nat.beq, lv_args, rlk, rs1, rs2, rdl, rky, rcd, rno, rsw, Value.category, List.filter, List.take, List.drop, List.reverse, List.reverseAux, List.cons_append, List.nil_append, Option.toList, Int.toNat, Int.reduceToNat, if_pos, if_neg, reduceIte, ↓reduceIte, Nat.reduceAdd, Nat.reduceEqDiff, Nat.reduceBEq, beq_self_eq_true, Bool.not_true, Bool.not_false, Bool.and_true, Bool.and_false, Bool.true_and, Bool.false_and, gI_sI, gI_sL, gI_sA, gI_sM, gL_sI, gL_sL, gL_sA, gL_sM, aI_sI, aI_sL, aI_sA, aI_sM, aL_sI, aL_sL, aL_sA, aL_sM, Bparam_0, Bparam_11, Bparam_18, Bparam_20, Bparam_31, Bparam_36, Bparam_54, Bparam_56, Bparam_69, Bparam_74, Bparam_85, Bparam_95, oi_0, oi_1, oi_21, oi_3, oi_6]; try dsimp only
        have hty : 50 ≤ codY z.1 ∧ codY z.1 ≤ 54 := hc37
        have hty2 := hP.1.ty2 (show 50 ≤ codY z.1 ∧ codY z.1 ≤ 55 by omega)
        have htv := (tyv_y hty).trans hty2.symm
        intro p40
        refine ⟨trivial, fun w41 τ41 hq41 => ?_⟩
        obtain ⟨hq41, hL41⟩ := hq41
        have hq41 := hq41 _ z.1 21 ⟨(PaR.x hP), by omega, by omega⟩
        rcases hq41 with ⟨rfl, hF41⟩ | ⟨rfl, hX41, hz41, hS41⟩
        · dsimp only [Option.toList, List.cons_append, List.nil_append, Nat.beq, gI_sI, gI_sL, gI_sA, gI_sM, gL_sI, gL_sL, gL_sA, gL_sM, aI_sI, aI_sL, aI_sA, aI_sM, aL_sI, aL_sL, aL_sA, aL_sM]
          refine ⟨fun h42 => absurd h42 (by decide), fun h42 => ?_⟩
          clear h42
          refine hB _ _ _ _ _ (fun m43 hm43 => ?_)
          dsimp only [ugo, uwp, ust, uct, rfd, Bparam, Nat.beq, lv_args, rlk, rs1, rs2, rdl, rky, rcd, rno, rsw, Value.category, List.filter, List.take, List.drop, List.reverse, List.reverseAux, List.cons_append, List.nil_append, Option.toList, Int.toNat, Int.reduceToNat, if_pos, if_neg, reduceIte, ↓reduceIte, Nat.reduceAdd, Nat.reduceEqDiff, Nat.reduceBEq, beq_self_eq_true, Bool.not_true, Bool.not_false, Bool.and_true, Bool.and_false, Bool.true_and, Bool.false_and, gI_sI, gI_sL, gI_sA, gI_sM, gL_sI, gL_sL, gL_sA, gL_sM, aI_sI, aI_sL, aI_sA, aI_sM, aL_sI, aL_sL, aL_sA, aL_sM, Bparam_0, Bparam_11, Bparam_18, Bparam_20, Bparam_31, Bparam_36, Bparam_54, Bparam_56, Bparam_69, Bparam_74, Bparam_85, Bparam_95, oi_0, oi_1, oi_21, oi_3, oi_6]; try dsimp only
          unfold Qv_paramZ
          try dsimp only
          refine Or.inl ⟨rfl, FlR.g hF41 ?_⟩
          rw [pa1_0 hc2, typ_y hty]
          exact gd_pa2 _
        · dsimp only [Option.toList, List.cons_append, List.nil_append, Nat.beq, gI_sI, gI_sL, gI_sA, gI_sM, gL_sI, gL_sL, gL_sA, gL_sM, aI_sI, aI_sL, aI_sA, aI_sM, aL_sI, aL_sL, aL_sA, aL_sM]
          have hP41 := PaR.s1 hP hX41 hS41
          have g6_41 : gI τ41 36 = gI σ 36 := (hS41.1 36 (by decide)).trans rfl
          have g9_41 : gI τ41 49 = gI σ 49 := (hS41.1 49 (by decide)).trans rfl
          have hPz41 : PZ N τ41 (typM z) kn := PZ.s1 hPz hS41 hL41 rfl kK_typ
          have hs41 : (typM z).1 = (accY z.1) := (congrArg typY rfl).trans (typ_y hty)
          have r37_41 : aI τ41 37 = aI σ 37 := (hS41.2 37).trans rfl
          refine ⟨fun h44 => ?_, fun h44 => absurd h44 (by decide)⟩
          clear h44
          refine hB _ _ _ _ _ (fun m45 hm45 => ?_)
          dsimp only [ugo, uwp, ust, uct, rfd, Bparam, Nat.beq, lv_args, rlk, rs1, rs2, rdl, rky, rcd, rno, rsw, Value.category, List.filter, List.take, List.drop, List.reverse, List.reverseAux, List.cons_append, List.nil_append, Option.toList, Int.toNat, Int.reduceToNat, if_pos, if_neg, reduceIte, ↓reduceIte, Nat.reduceAdd, Nat.reduceEqDiff, Nat.reduceBEq, beq_self_eq_true, Bool.not_true, Bool.not_false, Bool.and_true, Bool.and_false, Bool.true_and, Bool.false_and, gI_sI, gI_sL, gI_sA, gI_sM, gL_sI, gL_sL, gL_sA, gL_sM, aI_sI, aI_sL, aI_sA, aI_sM, aL_sI, aL_sL, aL_sA, aL_sM, Bparam_0, Bparam_11, Bparam_18, Bparam_20, Bparam_31, Bparam_36, Bparam_54, Bparam_56, Bparam_69, Bparam_74, Bparam_85, Bparam_95, oi_0, oi_1, oi_21, oi_3, oi_6]; try dsimp only
          intro p46
          refine ⟨fun h47 => ?_, fun h47 => ?_⟩
          · refine hB _ _ _ _ _ (fun m48 hm48 => ?_)
            dsimp only [ugo, uwp, ust, uct, rfd, Bparam, Nat.beq, lv_args, rlk, rs1, rs2, rdl, rky, rcd, rno, rsw, Value.category, List.filter, List.take, List.drop, List.reverse, List.reverseAux, List.cons_append, List.nil_append, Option.toList, Int.toNat, Int.reduceToNat, if_pos, if_neg, reduceIte, ↓reduceIte, Nat.reduceAdd, Nat.reduceEqDiff, Nat.reduceBEq, beq_self_eq_true, Bool.not_true, Bool.not_false, Bool.and_true, Bool.and_false, Bool.true_and, Bool.false_and, gI_sI, gI_sL, gI_sA, gI_sM, gL_sI, gL_sL, gL_sA, gL_sM, aI_sI, aI_sL, aI_sA, aI_sM, aL_sI, aL_sL, aL_sA, aL_sM, Bparam_0, Bparam_11, Bparam_18, Bparam_20, Bparam_31, Bparam_36, Bparam_54, Bparam_56, Bparam_69, Bparam_74, Bparam_85, Bparam_95, oi_0, oi_1, oi_21, oi_3, oi_6]; try dsimp only
            have hcn := hP41.1.ki.2.2.1.mp (by exact h47)
            have hm_ : m.toNatClampNeg = nT (gI τ41 36) := by rw [hm, ← g6_41]; rfl
            have hmp : aI τ41 39 m.toNatClampNeg = Int32.ofInt i := by rw [hm_]; exact hP41.2.2.2.2.2.1.2.1
            have hi7 : i ≤ 6 := hP41.2.2.2.2.2.1.2.2
            intro p49
            refine ⟨fun h50 => ?_, fun h50 => ?_⟩
            · refine hB _ _ _ _ _ (fun m51 hm51 => ?_)
              dsimp only [ugo, uwp, ust, uct, rfd, Bparam, Nat.beq, lv_args, rlk, rs1, rs2, rdl, rky, rcd, rno, rsw, Value.category, List.filter, List.take, List.drop, List.reverse, List.reverseAux, List.cons_append, List.nil_append, Option.toList, Int.toNat, Int.reduceToNat, if_pos, if_neg, reduceIte, ↓reduceIte, Nat.reduceAdd, Nat.reduceEqDiff, Nat.reduceBEq, beq_self_eq_true, Bool.not_true, Bool.not_false, Bool.and_true, Bool.and_false, Bool.true_and, Bool.false_and, gI_sI, gI_sL, gI_sA, gI_sM, gL_sI, gL_sL, gL_sA, gL_sM, aI_sI, aI_sL, aI_sA, aI_sM, aL_sI, aL_sL, aL_sA, aL_sM, Bparam_0, Bparam_11, Bparam_18, Bparam_20, Bparam_31, Bparam_36, Bparam_54, Bparam_56, Bparam_69, Bparam_74, Bparam_85, Bparam_95, oi_0, oi_1, oi_21, oi_3, oi_6]; try dsimp only
              have hi8 : ¬ i = 6 := fun q => h50 (hmp.trans ((i6 hi7).mpr q))
              have hi6 : i < 6 := by omega
              have hmi : upd (aI τ41 39) m.toNatClampNeg (aI τ41 39 m.toNatClampNeg + 1) = upd (aI τ41 39) (nT (gI τ41 36)) (Int32.ofInt i + 1) := by rw [hmp, hm_]
              intro p52
              intro p53
              refine ⟨trivial, fun w54 τ54 hq54 => ?_⟩
              obtain ⟨hq54, hL54⟩ := hq54
              have hV54 := hq54 (accY z.1) 21 ⟨(PaR.x hP41).1.kp rfl rfl rfl (aI_ne (by decide)) (aI_ne (by decide)) (aI_ne (by decide)), ⟨by show (gI τ41 17).toInt + _ = _; rw [hP41.2.1.1]; rfl, by decide⟩, by omega, ⟨(by rw [hP41.2.2.1.1]; exact (vlR_c (aI_ne (by decide)) (aI_ne (by decide)) (aI_ne (by decide)) (aI_ne (by decide)) _).symm), hP41.2.2.1.2⟩⟩
              rcases hV54 with ⟨rfl, hF54⟩ | ⟨rfl, hSh54, hz54, hl54, hva54, h47_54, h48_54⟩
              · dsimp only [Option.toList, List.cons_append, List.nil_append, Nat.beq, gI_sI, gI_sL, gI_sA, gI_sM, gL_sI, gL_sL, gL_sA, gL_sM, aI_sI, aI_sL, aI_sA, aI_sM, aL_sI, aL_sL, aL_sA, aL_sM]
                have hF54 : FlR τ54 (dclY (aI σ 6 (gI σ 14).toNatClampNeg).toInt 0 1 (accY z.1)) := hF54
                unfold Qv_paramZ
                try dsimp only
                refine Or.inl ⟨rfl, FlR.g hF54 ?_⟩
                rw [pa1_0 hc2, typ_y hty, htv, pa2_y hi6]
                exact gd_pad _
              · dsimp only [Option.toList, List.cons_append, List.nil_append, Nat.beq, gI_sI, gI_sL, gI_sA, gI_sM, gL_sI, gL_sL, gL_sA, gL_sM, aI_sI, aI_sL, aI_sA, aI_sM, aL_sI, aL_sL, aL_sA, aL_sM]
                unfold Qv_paramZ
                try dsimp only
                refine Or.inr ⟨rfl, hi6, ?_, (hva54.1 36 (by decide) (by decide)).trans g6_41, (hva54.1 49 (by decide) (by decide)).trans g9_41, (hva54.2.2.2.2 37 (by omega)).trans ((aI_ne (by decide)).trans r37_41), ?_⟩
                · rw [pa1_0 hc2, typ_y hty, htv, pa2_y hi6, dcl_y (hP41.1.1.1) hcn hl54]
                  exact PaR.va hP41 hi6 (by rw [hmi] at hva54; exact hva54) hSh54
                · have hvl : (zVs (typM z).1).length = nT (gI τ41 42) := by rw [show (typM z).1 = (accY z.1) from hs41, hP41.2.2.1.1, vlR_l]
                  rw [pa1_0M hc2, pa2_M hi6]
                  exact PZ.va hPz41 rfl hva54 h47_54 h48_54 hL54 hvl hkk
            · refine hB _ _ _ _ _ (fun m55 hm55 => ?_)
              dsimp only [ugo, uwp, ust, uct, rfd, Bparam, Nat.beq, lv_args, rlk, rs1, rs2, rdl, rky, rcd, rno, rsw, Value.category, List.filter, List.take, List.drop, List.reverse, List.reverseAux, List.cons_append, List.nil_append, Option.toList, Int.toNat, Int.reduceToNat, if_pos, if_neg, reduceIte, ↓reduceIte, Nat.reduceAdd, Nat.reduceEqDiff, Nat.reduceBEq, beq_self_eq_true, Bool.not_true, Bool.not_false, Bool.and_true, Bool.and_false, Bool.true_and, Bool.false_and, gI_sI, gI_sL, gI_sA, gI_sM, gL_sI, gL_sL, gL_sA, gL_sM, aI_sI, aI_sL, aI_sA, aI_sM, aL_sI, aL_sL, aL_sA, aL_sM, Bparam_0, Bparam_11, Bparam_18, Bparam_20, Bparam_31, Bparam_36, Bparam_54, Bparam_56, Bparam_69, Bparam_74, Bparam_85, Bparam_95, oi_0, oi_1, oi_21, oi_3, oi_6]; try dsimp only
              have hi6 := (i6 hi7).mp (hmp.symm.trans (by exact h50))
              refine ⟨trivial, fun w56 τ56 hq56 => ?_⟩
              obtain ⟨hq56, hL56⟩ := hq56
              obtain ⟨rfl, hf56⟩ := hq56 trivial
              dsimp only [Option.toList, List.cons_append, List.nil_append, Nat.beq, gI_sI, gI_sL, gI_sA, gI_sM, gL_sI, gL_sL, gL_sA, gL_sM, aI_sI, aI_sL, aI_sA, aI_sM, aL_sI, aL_sL, aL_sA, aL_sM]
              unfold Qv_paramZ
              try dsimp only
              have e := hf56 hP41.1.1.2
              subst e
              refine Or.inl ⟨rfl, ?_⟩
              rw [pa1_0 hc2, typ_y hty, pa2_n (by omega), dcl_p hcn]
              exact FlR.rai hP41.1 (by decide) (by show (3 : Int32).toInt = _; rw [if_neg (by omega)]; rfl) rfl
          · refine hB _ _ _ _ _ (fun m57 hm57 => ?_)
            dsimp only [ugo, uwp, ust, uct, rfd, Bparam, Nat.beq, lv_args, rlk, rs1, rs2, rdl, rky, rcd, rno, rsw, Value.category, List.filter, List.take, List.drop, List.reverse, List.reverseAux, List.cons_append, List.nil_append, Option.toList, Int.toNat, Int.reduceToNat, if_pos, if_neg, reduceIte, ↓reduceIte, Nat.reduceAdd, Nat.reduceEqDiff, Nat.reduceBEq, beq_self_eq_true, Bool.not_true, Bool.not_false, Bool.and_true, Bool.and_false, Bool.true_and, Bool.false_and, gI_sI, gI_sL, gI_sA, gI_sM, gL_sI, gL_sL, gL_sA, gL_sM, aI_sI, aI_sL, aI_sA, aI_sM, aL_sI, aL_sL, aL_sA, aL_sM, Bparam_0, Bparam_11, Bparam_18, Bparam_20, Bparam_31, Bparam_36, Bparam_54, Bparam_56, Bparam_69, Bparam_74, Bparam_85, Bparam_95, oi_0, oi_1, oi_21, oi_3, oi_6]; try dsimp only
            have hnn : ¬ codY (accY z.1) = 80 := fun q => h47 (hP41.1.ki.2.2.1.mpr q)
            refine ⟨trivial, fun w58 τ58 hq58 => ?_⟩
            obtain ⟨hq58, hL58⟩ := hq58
            have hq58 := hq58 (accY z.1) (XrR.s (PaR.x hP41))
            obtain ⟨rfl, hF58⟩ := hq58
            dsimp only [Option.toList, List.cons_append, List.nil_append, Nat.beq, gI_sI, gI_sL, gI_sA, gI_sM, gL_sI, gL_sL, gL_sA, gL_sM, aI_sI, aI_sL, aI_sA, aI_sM, aL_sI, aL_sL, aL_sA, aL_sM]
            unfold Qv_paramZ
            try dsimp only
            refine Or.inl ⟨rfl, FlR.g hF58 ?_⟩
            rw [pa1_0 hc2, typ_y hty]
            exact pa2_8 hnn
      · dsimp only [Option.toList, List.cons_append, List.nil_append, Nat.beq, gI_sI, gI_sL, gI_sA, gI_sM, gL_sI, gL_sL, gL_sA, gL_sM, aI_sI, aI_sL, aI_sA, aI_sM, aL_sI, aL_sL, aL_sA, aL_sM]
        have hc37 : ¬ (50 ≤ codY z.1 ∧ codY z.1 ≤ 54) := fun q => hk37 (he37.mpr q)
        refine ⟨fun h59 => absurd h59 (by decide), fun h59 => ?_⟩
        clear h59
        refine hB _ _ _ _ _ (fun m60 hm60 => ?_)
        dsimp only [ugo, uwp, ust, uct, rfd, Bparam, Nat.beq, lv_args, rlk, rs1, rs2, rdl, rky, rcd, rno, rsw, Value.category, List.filter, List.take, List.drop, List.reverse, List.reverseAux, List.cons_append, List.nil_append, Option.toList, Int.toNat, Int.reduceToNat, if_pos, if_neg, reduceIte, ↓reduceIte, Nat.reduceAdd, Nat.reduceEqDiff, Nat.reduceBEq, beq_self_eq_true, Bool.not_true, Bool.not_false, Bool.and_true, Bool.and_false, Bool.true_and, Bool.false_and, gI_sI, gI_sL, gI_sA, gI_sM, gL_sI, gL_sL, gL_sA, gL_sM, aI_sI, aI_sL, aI_sA, aI_sM, aL_sI, aL_sL, aL_sA, aL_sM, Bparam_0, Bparam_11, Bparam_18, Bparam_20, Bparam_31, Bparam_36, Bparam_54, Bparam_56, Bparam_69, Bparam_74, Bparam_85, Bparam_95, oi_0, oi_1, oi_21, oi_3, oi_6]; try dsimp only
        refine ⟨trivial, fun w61 τ61 hq61 => ?_⟩
        obtain ⟨hq61, hL61⟩ := hq61
        have hq61 := hq61 z.1 (XrR.s (PaR.x hP))
        obtain ⟨rfl, hF61⟩ := hq61
        dsimp only [Option.toList, List.cons_append, List.nil_append, Nat.beq, gI_sI, gI_sL, gI_sA, gI_sM, gL_sI, gL_sL, gL_sA, gL_sM, aI_sI, aI_sL, aI_sA, aI_sM, aL_sI, aL_sL, aL_sA, aL_sM]
        unfold Qv_paramZ
        try dsimp only
        refine Or.inl ⟨rfl, FlR.g hF61 ?_⟩
        rw [pa1_0 hc2, typ_n hc37]
        exact gd_pa2 _
  next => exact hP.elim
theorem w_paramZ : UMet 39 (fun _ _ => True) Qw_paramZ := fun A1 σ _ w τ h N z i kn hP => v_paramZ N z i kn A1 σ hP w τ h
