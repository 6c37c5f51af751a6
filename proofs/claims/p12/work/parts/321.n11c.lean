def Pv_parseZ (N : Int → Int) (z : ZS) : UP1 := fun A1 σ => match A1 with
  | [] => ShR (sI (sI σ 14 0) 15 0) z.1 ∧ Z0Y z.1 ∧ z.2.1 = [] ∧ tnM z = 0 ∧ TlZ σ z.1 ∧ NmZ N σ
  | _ => False
def Qv_parseZ (N : Int → Int) (z : ZS) : UQ1 := fun A1 σ w τ => match A1 with
  | [] => (w = some (.int 0) ∧ FlR τ (prM N 11 z).1) ∨ (w = some (.int 1) ∧ MhR τ (prM N 11 z).1 ∧ MZ N τ (prM N 11 z))
  | _ => False
def Qw_parseZ : UQ1 := fun A1 σ w τ => ∀ (N : Int → Int) (z : ZS), Pv_parseZ N z A1 σ → Qv_parseZ N z A1 σ w τ
set_option maxRecDepth 100000 in
set_option maxHeartbeats 4000000 in
theorem v_parseZ (N : Int → Int) (z : ZS) : UMet 37 (Pv_parseZ N z) (Qv_parseZ N z) := by
  refine UMet.by Bparse [(38, (fun _ _ => True), (LqR Qw_methodZ))] rfl (ucc (UMet.aL ck_P rfl w_methodZ) uc0) ?_
  intro A1 σ hP K hB hW
  unfold Pv_parseZ at hP
  split at hP
  next =>
    obtain ⟨hS, hZ, hi, htn, hTl, hNm⟩ := hP
    have t35 : ∀ (M : Nat) (Y : RS) (t : ZS), MhR Y t.1 → MZ N Y t → prM N (11 - (zMs t.1).length) t = prM N 11 z → K M 35 [(0, .ref 1000)] [] Y := by
      intro M
      induction M using Nat.strongRecOn with
      | ind M t35 =>
        intro Y t hM hMz hPh
        refine hB _ _ _ _ _ (fun m1 hm1 => ?_)
        dsimp only [ugo, uwp, ust, uct, rfd, Bparse, Nat.beq, lv_args, rlk, rs1, rs2, rdl, rky, rcd, rno, rsw, Value.category, List.filter, List.take, List.drop, List.reverse, List.reverseAux, List.cons_append, List.nil_append, Option.toList, Int.toNat, Int.reduceToNat, if_pos, if_neg, reduceIte, ↓reduceIte, Nat.reduceAdd, Nat.reduceEqDiff, Nat.reduceBEq, beq_self_eq_true, Bool.not_true, Bool.not_false, Bool.and_true, Bool.and_false, Bool.true_and, Bool.false_and, gI_sI, gI_sL, gI_sA, gI_sM, gL_sI, gL_sL, gL_sA, gL_sM, aI_sI, aI_sL, aI_sA, aI_sM, aL_sI, aL_sL, aL_sA, aL_sM, Bparse_0, Bparse_35, Bparse_47, Bparse_54, Bparse_56, oi_0, oi_1]; try dsimp only
        intro p2
        refine ⟨fun h3 => ?_, fun h3 => ?_⟩
        · refine hB _ _ _ _ _ (fun m4 hm4 => ?_)
          dsimp only [ugo, uwp, ust, uct, rfd, Bparse, Nat.beq, lv_args, rlk, rs1, rs2, rdl, rky, rcd, rno, rsw, Value.category, List.filter, List.take, List.drop, List.reverse, List.reverseAux, List.cons_append, List.nil_append, Option.toList, Int.toNat, Int.reduceToNat, if_pos, if_neg, reduceIte, ↓reduceIte, Nat.reduceAdd, Nat.reduceEqDiff, Nat.reduceBEq, beq_self_eq_true, Bool.not_true, Bool.not_false, Bool.and_true, Bool.and_false, Bool.true_and, Bool.false_and, gI_sI, gI_sL, gI_sA, gI_sM, gL_sI, gL_sL, gL_sA, gL_sM, aI_sI, aI_sL, aI_sA, aI_sM, aL_sI, aL_sL, aL_sA, aL_sM, Bparse_0, Bparse_35, Bparse_47, Bparse_54, Bparse_56, oi_0, oi_1]; try dsimp only
          have hl := mh_len hM
          obtain ⟨f, hf⟩ : ∃ f, 11 - (zMs t.1).length = f + 1 := ⟨10 - (zMs t.1).length, by omega⟩
          rw [hf, prM, if_pos hM.1.1.1, if_pos (hM.1.ki.1.mp (by exact h3))] at hPh
          unfold Qv_parseZ
          try dsimp only
          rw [← hPh]
          exact Or.inr ⟨rfl, hM, hMz⟩
        · refine hB _ _ _ _ _ (fun m5 hm5 => ?_)
          dsimp only [ugo, uwp, ust, uct, rfd, Bparse, Nat.beq, lv_args, rlk, rs1, rs2, rdl, rky, rcd, rno, rsw, Value.category, List.filter, List.take, List.drop, List.reverse, List.reverseAux, List.cons_append, List.nil_append, Option.toList, Int.toNat, Int.reduceToNat, if_pos, if_neg, reduceIte, ↓reduceIte, Nat.reduceAdd, Nat.reduceEqDiff, Nat.reduceBEq, beq_self_eq_true, Bool.not_true, Bool.not_false, Bool.and_true, Bool.and_false, Bool.true_and, Bool.false_and, gI_sI, gI_sL, gI_sA, gI_sM, gL_sI, gL_sL, gL_sA, gL_sM, aI_sI, aI_sL, aI_sA, aI_sM, aL_sI, aL_sL, aL_sA, aL_sM, Bparse_0, Bparse_35, Bparse_47, Bparse_54, Bparse_56, oi_0, oi_1]; try dsimp only
          have hl := mh_len hM
          obtain ⟨f, hf⟩ : ∃ f, 11 - (zMs t.1).length = f + 1 := ⟨10 - (zMs t.1).length, by omega⟩
          rw [hf, prM, if_pos hM.1.1.1, if_neg (fun q => h3 (hM.1.ki.1.mpr q))] at hPh
          refine ⟨trivial, fun w6 τ6 hq6 => ?_⟩
          obtain ⟨hq6, hL6⟩ := hq6
          have hq6 := hq6 N t ⟨hM, hMz⟩
          rcases hq6 with ⟨rfl, hF6⟩ | ⟨rfl, hM6, hMz6⟩
          · dsimp only [Option.toList, List.cons_append, List.nil_append, Nat.beq, gI_sI, gI_sL, gI_sA, gI_sM, gL_sI, gL_sL, gL_sA, gL_sM, aI_sI, aI_sL, aI_sA, aI_sM, aL_sI, aL_sL, aL_sA, aL_sM]
            refine ⟨fun h7 => absurd h7 (by decide), fun h7 => ?_⟩
            clear h7
            refine hB _ _ _ _ _ (fun m8 hm8 => ?_)
            dsimp only [ugo, uwp, ust, uct, rfd, Bparse, Nat.beq, lv_args, rlk, rs1, rs2, rdl, rky, rcd, rno, rsw, Value.category, List.filter, List.take, List.drop, List.reverse, List.reverseAux, List.cons_append, List.nil_append, Option.toList, Int.toNat, Int.reduceToNat, if_pos, if_neg, reduceIte, ↓reduceIte, Nat.reduceAdd, Nat.reduceEqDiff, Nat.reduceBEq, beq_self_eq_true, Bool.not_true, Bool.not_false, Bool.and_true, Bool.and_false, Bool.true_and, Bool.false_and, gI_sI, gI_sL, gI_sA, gI_sM, gL_sI, gL_sL, gL_sA, gL_sM, aI_sI, aI_sL, aI_sA, aI_sM, aL_sI, aL_sL, aL_sA, aL_sM, Bparse_0, Bparse_35, Bparse_47, Bparse_54, Bparse_56, oi_0, oi_1]; try dsimp only
            unfold Qv_parseZ
            try dsimp only
            rw [← hPh]
            exact Or.inl ⟨rfl, FlR.g hF6 (by rw [lf_pr]; exact gd_prl _ _)⟩
          · dsimp only [Option.toList, List.cons_append, List.nil_append, Nat.beq, gI_sI, gI_sL, gI_sA, gI_sM, gL_sI, gL_sL, gL_sA, gL_sM, aI_sI, aI_sL, aI_sA, aI_sM, aL_sI, aL_sL, aL_sA, aL_sM]
            refine ⟨fun h9 => ?_, fun h9 => absurd h9 (by decide)⟩
            clear h9
            exact hW _ 35 [(0, .ref 1000)] _ _ _ (by simp [rdl, rky]) (t35 _ (by omega) _ (meM N t) hM6 hMz6 (by have e := ml_mth (s := t.1) (by rw [← lf_me (N := N)]; exact hM6.1.1.1); rw [lf_me, e, show 11 - ((zMs t.1).length + 1) = f by omega]; exact hPh))
    intro n0_
    refine hB _ _ _ _ _ (fun m1 hm1 => ?_)
    dsimp only [ugo, uwp, ust, uct, rfd, Bparse, Nat.beq, lv_args, rlk, rs1, rs2, rdl, rky, rcd, rno, rsw, Value.category, List.filter, List.take, List.drop, List.reverse, List.reverseAux, List.cons_append, List.nil_append, Option.toList, Int.toNat, Int.reduceToNat, if_pos, if_neg, reduceIte, ↓reduceIte, Nat.reduceAdd, Nat.reduceEqDiff, Nat.reduceBEq, beq_self_eq_true, Bool.not_true, Bool.not_false, Bool.and_true, Bool.and_false, Bool.true_and, Bool.false_and, gI_sI, gI_sL, gI_sA, gI_sM, gL_sI, gL_sL, gL_sA, gL_sM, aI_sI, aI_sL, aI_sA, aI_sM, aL_sI, aL_sL, aL_sA, aL_sM, Bparse_0, Bparse_35, Bparse_47, Bparse_54, Bparse_56, oi_0, oi_1]; try dsimp only
    exact hW _ 35 [(0, .ref 1000)] _ _ _ (by simp [rdl, rky]) (t35 _ _ z ⟨hS.kp rfl rfl rfl rfl rfl rfl, rfl, ⟨by rw [hZ.2.2.2]; rfl, (show (0 : Int32) ≤ 0 ∧ (0 : Int32) ≤ 60 by decide)⟩, by rw [hZ.2.2.1]; rfl, (show (0 : Int32) ≤ 0 ∧ (0 : Int32) ≤ 10 by decide), fun m hm => absurd hm (Nat.not_lt_zero _)⟩ ⟨⟨by rw [hi]; trivial, by rw [hi]; rfl⟩, by rw [htn]; rfl, fun v hv => absurd hv (Nat.not_lt_zero _), ⟨hTl, hNm⟩, (show (0 : Int32) ≤ 0 ∧ (0 : Int32) ≤ 600 by decide), ⟨fun a _ _ k hk => absurd (show k < 0 by rw [← htn]; exact hk) (Nat.not_lt_zero _), fun k hk => absurd (show k < 0 by rw [← htn]; exact hk) (Nat.not_lt_zero _), fun c x hx => by rw [hi] at hx; cases hx⟩, (show (0 : Int32) ≤ 0 by decide)⟩ (by rw [hZ.2.2.1]; rfl))
  next => exact hP.elim
theorem w_parseZ : UMet 37 (fun _ _ => True) Qw_parseZ := fun A1 σ _ w τ h N z hP => v_parseZ N z A1 σ hP w τ h
