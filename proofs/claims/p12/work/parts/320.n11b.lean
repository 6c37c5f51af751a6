def Pv_methodZ (N : Int → Int) (z : ZS) : UP1 := fun A1 σ => match A1 with
  | [] => MhR σ z.1 ∧ MZ N σ z
  | _ => False
def Qv_methodZ (N : Int → Int) (z : ZS) : UQ1 := fun A1 σ w τ => match A1 with
  | [] => (w = some (.int 0) ∧ FlR τ (meM N z).1) ∨ (w = some (.int 1) ∧ MhR τ (meM N z).1 ∧ MZ N τ (meM N z))
  | _ => False
def Qw_methodZ : UQ1 := fun A1 σ w τ => ∀ (N : Int → Int) (z : ZS), Pv_methodZ N z A1 σ → Qv_methodZ N z A1 σ w τ
set_option maxRecDepth 100000 in
set_option maxHeartbeats 4000000 in
theorem v_methodZ (N : Int → Int) (z : ZS) : UMet 38 (Pv_methodZ N z) (Qv_methodZ N z) := by
  refine UMet.by Bmethod [(13, (fun _ _ => True), (LqR Qw_cant)), (14, (fun _ _ => True), (LqR Qw_isSign)), (23, (fun _ _ => True), (LqR Qw_isType)), (15, (fun _ _ => True), (LqR Qw_isWord)), (36, (fun _ _ => True), (LqR Qw_openZ)), (39, (fun _ _ => True), (LqR Qw_paramZ)), (44, (fun _ _ => True), (LqR Qw_pieceZ)), (17, (fun _ _ => True), (LqR Qw_take)), (35, (fun _ _ => True), (LqR Qw_thingZ)), (18, (fun _ _ => True), (LqR Qw_want)), (12, (fun _ _ => True), (LqR Qw_wrong))] rfl (ucc (UMet.aL ck_P rfl w_cant) (ucc (UMet.aL ck_P rfl w_isSign) (ucc (UMet.aL ck_P rfl w_isType) (ucc (UMet.aL ck_P rfl w_isWord) (ucc (UMet.aL ck_P rfl w_openZ) (ucc (UMet.aL ck_P rfl w_paramZ) (ucc (UMet.aL ck_P rfl w_pieceZ) (ucc (UMet.aL ck_P rfl w_take) (ucc (UMet.aL ck_P rfl w_thingZ) (ucc (UMet.aL ck_P rfl w_want) (ucc (UMet.aL ck_P rfl w_wrong) uc0))))))))))) ?_
  intro A1 σ hP K hB hW
  unfold Pv_methodZ at hP
  split at hP
  next =>
    obtain ⟨hM, hMz⟩ := hP
    have t259 : ∀ (M : Nat) (Y : RS) (t : ZS) (m : Nat) (G : List FrZ), SR Y t.1 m → FgR Y (bF G) → BZ N Y t G G → KtR Y t → WfF G.tail → LuZ t G → 1 ≤ zAt t.1 → pcM N G m t = meM N z → 0 < (meM N z).2.1.length → K M 259 [(0, .ref 1000)] [] Y := by
      intro M
      induction M using Nat.strongRecOn with
      | ind M t259 =>
        intro Y t m G hR hg hZ hK hw hLu ha1 hPh hMe
        refine hB _ _ _ _ _ (fun m1 hm1 => ?_)
        dsimp only [ugo, uwp, ust, uct, rfd, Bmethod, Nat.beq, lv_args, rlk, rs1, rs2, rdl, rky, rcd, rno, rsw, Value.category, List.filter, List.take, List.drop, List.reverse, List.reverseAux, List.cons_append, List.nil_append, Option.toList, Int.toNat, Int.reduceToNat, if_pos, if_neg, reduceIte, ↓reduceIte, Nat.reduceAdd, Nat.reduceEqDiff, Nat.reduceBEq, beq_self_eq_true, Bool.not_true, Bool.not_false, Bool.and_true, Bool.and_false, Bool.true_and, Bool.false_and, gI_sI, gI_sL, gI_sA, gI_sM, gL_sI, gL_sL, gL_sA, gL_sM, aI_sI, aI_sL, aI_sA, aI_sM, aL_sI, aL_sL, aL_sA, aL_sM, Bmethod_0, Bmethod_8, Bmethod_19, Bmethod_24, Bmethod_41, Bmethod_43, Bmethod_56, Bmethod_61, Bmethod_70, Bmethod_80, Bmethod_141, Bmethod_150, Bmethod_152, Bmethod_161, Bmethod_165, Bmethod_166, Bmethod_168, Bmethod_173, Bmethod_182, Bmethod_184, Bmethod_197, Bmethod_204, Bmethod_206, Bmethod_215, Bmethod_217, Bmethod_246, Bmethod_257, Bmethod_259, Bmethod_266, Bmethod_273, Bmethod_275, oi_0, oi_1, oi_10, oi_123, oi_3, oi_40, oi_41, oi_44, oi_5, oi_m2]; try dsimp only
        refine ⟨fun h2 => ?_, fun h2 => ?_⟩
        · refine hB _ _ _ _ _ (fun m3 hm3 => ?_)
          dsimp only [ugo, uwp, ust, uct, rfd, Bmethod, Nat.beq, lv_args, rlk, rs1, rs2, rdl, rky, rcd, rno, rsw, Value.category, List.filter, List.take, List.drop, List.reverse, List.reverseAux, List.cons_append, List.nil_append, Option.toList, Int.toNat, Int.reduceToNat, if_pos, if_neg, reduceIte, ↓reduceIte, Nat.reduceAdd, Nat.reduceEqDiff, Nat.reduceBEq, beq_self_eq_true, Bool.not_true, Bool.not_false, Bool.and_true, Bool.and_false, Bool.true_and, Bool.false_and, gI_sI, gI_sL, gI_sA, gI_sM, gL_sI, gL_sL, gL_sA, gL_sM, aI_sI, aI_sL, aI_sA, aI_sM, aL_sI, aL_sL, aL_sA, aL_sM, Bmethod_0, Bmethod_8, Bmethod_19, Bmethod_24, Bmethod_41, Bmethod_43, Bmethod_56, Bmethod_61, Bmethod_70, Bmethod_80, Bmethod_141, Bmethod_150, Bmethod_152, Bmethod_161, Bmethod_165, Bmethod_166, Bmethod_168, Bmethod_173, Bmethod_182, Bmethod_184, Bmethod_197, Bmethod_204, Bmethod_206, Bmethod_215, Bmethod_217, Bmethod_246, Bmethod_257, Bmethod_259, Bmethod_266, Bmethod_273, Bmethod_275, oi_0, oi_1, oi_10, oi_123, oi_3, oi_40, oi_41, oi_44, oi_5, oi_m2]; try dsimp only
          unfold Qv_methodZ
          try dsimp only
          have hle : gI Y 62 ≤ 0 := by lia
          have e := hZ.1.nil hle
          subst e
          have ef := frR_nil (σ := Y) hle
          have hn := hR.2.1
          rw [ef] at hn
          have hn2 : m + 0 = 21 + 0 := hn.2.2
          have hPh : t = meM N z := hPh
          rw [← hPh]
          exact Or.inr ⟨rfl, ⟨hR.1, by omega, hR.2.2.2.2⟩, BZ.mz hZ hK (by rw [hPh]; exact hMe)⟩
        · refine hB _ _ _ _ _ (fun m4 hm4 => ?_)
          dsimp only [ugo, uwp, ust, uct, rfd, Bmethod, Nat.beq, lv_args, rlk, rs1, rs2, rdl, rky, rcd, rno, rsw, Value.category, List.filter, List.take, List.drop, List.reverse, List.reverseAux, List.cons_append, List.nil_append, Option.toList, Int.toNat, Int.reduceToNat, if_pos, if_neg, reduceIte, ↓reduceIte, Nat.reduceAdd, Nat.reduceEqDiff, Nat.reduceBEq, beq_self_eq_true, Bool.not_true, Bool.not_false, Bool.and_true, Bool.and_false, Bool.true_and, Bool.false_and, gI_sI, gI_sL, gI_sA, gI_sM, gL_sI, gL_sL, gL_sA, gL_sM, aI_sI, aI_sL, aI_sA, aI_sM, aL_sI, aL_sL, aL_sA, aL_sM, Bmethod_0, Bmethod_8, Bmethod_19, Bmethod_24, Bmethod_41, Bmethod_43, Bmethod_56, Bmethod_61, Bmethod_70, Bmethod_80, Bmethod_141, Bmethod_150, Bmethod_152, Bmethod_161, Bmethod_165, Bmethod_166, Bmethod_168, Bmethod_173, Bmethod_182, Bmethod_184, Bmethod_197, Bmethod_204, Bmethod_206, Bmethod_215, Bmethod_217, Bmethod_246, Bmethod_257, Bmethod_259, Bmethod_266, Bmethod_273, Bmethod_275, oi_0, oi_1, oi_10, oi_123, oi_3, oi_40, oi_41, oi_44, oi_5, oi_m2]; try dsimp only
          have hop : 0 < gI Y 62 := by lia
          refine ⟨trivial, fun w5 τ5 hq5 => ?_⟩
          obtain ⟨hq5, hL5⟩ := hq5
          have hq5 : StZ N τ5 _ w5 := hq5 N t m G ⟨hR, hg, hop, hZ, hK, hw, hLu, ha1⟩
          rw [hPh] at hq5
          rcases hq5 with ⟨rfl, hF5⟩ | ⟨rfl, z5_, n5_, F5_, hR5, hg5, hZ5, hK5, hw5, hLu5, ha5, hq5⟩
          · dsimp only [Option.toList, List.cons_append, List.nil_append, Nat.beq, gI_sI, gI_sL, gI_sA, gI_sM, gL_sI, gL_sL, gL_sA, gL_sM, aI_sI, aI_sL, aI_sA, aI_sM, aL_sI, aL_sL, aL_sA, aL_sM]
            refine ⟨fun h6 => absurd h6 (by decide), fun h6 => ?_⟩
            clear h6
            refine hB _ _ _ _ _ (fun m7 hm7 => ?_)
            dsimp only [ugo, uwp, ust, uct, rfd, Bmethod, Nat.beq, lv_args, rlk, rs1, rs2, rdl, rky, rcd, rno, rsw, Value.category, List.filter, List.take, List.drop, List.reverse, List.reverseAux, List.cons_append, List.nil_append, Option.toList, Int.toNat, Int.reduceToNat, if_pos, if_neg, reduceIte, ↓reduceIte, Nat.reduceAdd, Nat.reduceEqDiff, Nat.reduceBEq, beq_self_eq_true, Bool.not_true, Bool.not_false, Bool.and_true, Bool.and_false, Bool.true_and, Bool.false_and, gI_sI, gI_sL, gI_sA, gI_sM, gL_sI, gL_sL, gL_sA, gL_sM, aI_sI, aI_sL, aI_sA, aI_sM, aL_sI, aL_sL, aL_sA, aL_sM, Bmethod_0, Bmethod_8, Bmethod_19, Bmethod_24, Bmethod_41, Bmethod_43, Bmethod_56, Bmethod_61, Bmethod_70, Bmethod_80, Bmethod_141, Bmethod_150, Bmethod_152, Bmethod_161, Bmethod_165, Bmethod_166, Bmethod_168, Bmethod_173, Bmethod_182, Bmethod_184, Bmethod_197, Bmethod_204, Bmethod_206, Bmethod_215, Bmethod_217, Bmethod_246, Bmethod_257, Bmethod_259, Bmethod_266, Bmethod_273, Bmethod_275, oi_0, oi_1, oi_10, oi_123, oi_3, oi_40, oi_41, oi_44, oi_5, oi_m2]; try dsimp only
            unfold Qv_methodZ
            try dsimp only
            exact Or.inl ⟨rfl, hF5⟩
          · dsimp only [Option.toList, List.cons_append, List.nil_append, Nat.beq, gI_sI, gI_sL, gI_sA, gI_sM, gL_sI, gL_sL, gL_sA, gL_sM, aI_sI, aI_sL, aI_sA, aI_sM, aL_sI, aL_sL, aL_sA, aL_sM]
            refine ⟨fun h8 => ?_, fun h8 => absurd h8 (by decide)⟩
            clear h8
            exact hW _ 259 [(0, .ref 1000)] _ _ _ (by simp [rdl, rky]) (t259 _ (by omega) _ z5_ n5_ F5_ hR5 hg5 hZ5 hK5 hw5 hLu5 ha5 hq5 hMe)
    have t168 : ∀ (M : Nat) (Y : RS) (nm tk : Int) (kn : Nat) (v : ZS) (i : Nat) (ty mm kk more : Int32), PaR Y v.1 i → mm = gI Y 36 → PZ N Y v kn → kk.toInt = (kn : Int) → ((gI Y 36).toInt = nm ∧ (aI Y 37 (gI Y 36).toNatClampNeg).toInt = tk) → 1 ≤ zAt v.1 → 0 < (meM N z).2.1.length → ((more = 1 ∧ mbM N nm tk (xpM 1 (palM N (7 - i) i v)) = meM N z) ∨ (more = 0 ∧ mbM N nm tk (xpM 1 v) = meM N z)) → K M 168 [(0, .ref 1000), (1, .int ty), (2, .int mm), (3, .int kk), (4, .int more)] [] Y := by
      intro M
      induction M using Nat.strongRecOn with
      | ind M t168 =>
        intro Y nm tk kn v i ty mm kk more hP hmm hPz hkk h37 ha1 hMe hm
        have hkk9 : nT kk < nT (gI Y 49) := by rw [show nT kk = kn from nT_i hkk, hPz.2.1.1]; exact hPz.2.1.2
        refine hB _ _ _ _ _ (fun m1 hm1 => ?_)
        dsimp only [ugo, uwp, ust, uct, rfd, Bmethod, Nat.beq, lv_args, rlk, rs1, rs2, rdl, rky, rcd, rno, rsw, Value.category, List.filter, List.take, List.drop, List.reverse, List.reverseAux, List.cons_append, List.nil_append, Option.toList, Int.toNat, Int.reduceToNat, if_pos, if_neg, reduceIte, ↓reduceIte, Nat.reduceAdd, Nat.reduceEqDiff, Nat.reduceBEq, beq_self_eq_true, Bool.not_true, Bool.not_false, Bool.and_true, Bool.and_false, Bool.true_and, Bool.false_and, gI_sI, gI_sL, gI_sA, gI_sM, gL_sI, gL_sL, gL_sA, gL_sM, aI_sI, aI_sL, aI_sA, aI_sM, aL_sI, aL_sL, aL_sA, aL_sM, Bmethod_0, Bmethod_8, Bmethod_19, Bmethod_24, Bmethod_41, Bmethod_43, Bmethod_56, Bmethod_61, Bmethod_70, Bmethod_80, Bmethod_141, Bmethod_150, Bmethod_152, Bmethod_161, Bmethod_165, Bmethod_166, Bmethod_168, Bmethod_173, Bmethod_182, Bmethod_184, Bmethod_197, Bmethod_204, Bmethod_206, Bmethod_215, Bmethod_217, Bmethod_246, Bmethod_257, Bmethod_259, Bmethod_266, Bmethod_273, Bmethod_275, oi_0, oi_1, oi_10, oi_123, oi_3, oi_40, oi_41, oi_44, oi_5, oi_m2]; try dsimp only
        refine ⟨fun h2 => ?_, fun h2 => ?_⟩
        · refine hB _ _ _ _ _ (fun m3 hm3 => ?_)
          dsimp only [ugo, uwp, ust, uct, rfd, Bmethod, Nat.beq, lv_args, rlk, rs1, rs2, rdl, rky, rcd, rno, rsw, Value.category, List.filter, List.take, List.drop, List.reverse, List.reverseAux, List.cons_append, List.nil_append, Option.toList, Int.toNat, Int.reduceToNat, if_pos, if_neg, reduceIte, ↓reduceIte, Nat.reduceAdd, Nat.reduceEqDiff, Nat.reduceBEq, beq_self_eq_true, Bool.not_true, Bool.not_false, Bool.and_true, Bool.and_false, Bool.true_and, Bool.false_and, gI_sI, gI_sL, gI_sA, gI_sM, gL_sI, gL_sL, gL_sA, gL_sM, aI_sI, aI_sL, aI_sA, aI_sM, aL_sI, aL_sL, aL_sA, aL_sM, Bmethod_0, Bmethod_8, Bmethod_19, Bmethod_24, Bmethod_41, Bmethod_43, Bmethod_56, Bmethod_61, Bmethod_70, Bmethod_80, Bmethod_141, Bmethod_150, Bmethod_152, Bmethod_161, Bmethod_165, Bmethod_166, Bmethod_168, Bmethod_173, Bmethod_182, Bmethod_184, Bmethod_197, Bmethod_204, Bmethod_206, Bmethod_215, Bmethod_217, Bmethod_246, Bmethod_257, Bmethod_259, Bmethod_266, Bmethod_273, Bmethod_275, oi_0, oi_1, oi_10, oi_123, oi_3, oi_40, oi_41, oi_44, oi_5, oi_m2]; try dsimp only
          obtain ⟨-, hPh⟩ := hm.resolve_left (fun q => absurd q.1 (by lia))
          have hPhY : bdY (xpY 1 v.1) = (meM N z).1 := by rw [← hPh]; show bdY (xpM 1 v).1 = _; exact lf_mb.symm
          refine ⟨trivial, fun w4 τ4 hq4 => ?_⟩
          obtain ⟨hq4, hL4⟩ := hq4
          have hq4 := hq4 _ v.1 21 1 ⟨(PaR.x hP), by decide⟩
          rcases hq4 with ⟨rfl, hF4⟩ | ⟨rfl, hc4, hX4, hz4, hS4⟩
          · dsimp only [Option.toList, List.cons_append, List.nil_append, Nat.beq, gI_sI, gI_sL, gI_sA, gI_sM, gL_sI, gL_sL, gL_sA, gL_sM, aI_sI, aI_sL, aI_sA, aI_sM, aL_sI, aL_sL, aL_sA, aL_sM]
            refine ⟨fun h5 => absurd h5 (by decide), fun h5 => ?_⟩
            clear h5
            refine hB _ _ _ _ _ (fun m6 hm6 => ?_)
            dsimp only [ugo, uwp, ust, uct, rfd, Bmethod, Nat.beq, lv_args, rlk, rs1, rs2, rdl, rky, rcd, rno, rsw, Value.category, List.filter, List.take, List.drop, List.reverse, List.reverseAux, List.cons_append, List.nil_append, Option.toList, Int.toNat, Int.reduceToNat, if_pos, if_neg, reduceIte, ↓reduceIte, Nat.reduceAdd, Nat.reduceEqDiff, Nat.reduceBEq, beq_self_eq_true, Bool.not_true, Bool.not_false, Bool.and_true, Bool.and_false, Bool.true_and, Bool.false_and, gI_sI, gI_sL, gI_sA, gI_sM, gL_sI, gL_sL, gL_sA, gL_sM, aI_sI, aI_sL, aI_sA, aI_sM, aL_sI, aL_sL, aL_sA, aL_sM, Bmethod_0, Bmethod_8, Bmethod_19, Bmethod_24, Bmethod_41, Bmethod_43, Bmethod_56, Bmethod_61, Bmethod_70, Bmethod_80, Bmethod_141, Bmethod_150, Bmethod_152, Bmethod_161, Bmethod_165, Bmethod_166, Bmethod_168, Bmethod_173, Bmethod_182, Bmethod_184, Bmethod_197, Bmethod_204, Bmethod_206, Bmethod_215, Bmethod_217, Bmethod_246, Bmethod_257, Bmethod_259, Bmethod_266, Bmethod_273, Bmethod_275, oi_0, oi_1, oi_10, oi_123, oi_3, oi_40, oi_41, oi_44, oi_5, oi_m2]; try dsimp only
            unfold Qv_methodZ
            try dsimp only
            rw [← hPhY]
            exact Or.inl ⟨rfl, FlR.g hF4 (gd_bd _)⟩
          · dsimp only [Option.toList, List.cons_append, List.nil_append, Nat.beq, gI_sI, gI_sL, gI_sA, gI_sM, gL_sI, gL_sL, gL_sA, gL_sM, aI_sI, aI_sL, aI_sA, aI_sM, aL_sI, aL_sL, aL_sA, aL_sM]
            have hP4 := PaR.s1 hP hX4 hS4
            have g6_4 : gI τ4 36 = gI Y 36 := (hS4.1 36 (by decide)).trans rfl
            have g9_4 : gI τ4 49 = gI Y 49 := (hS4.1 49 (by decide)).trans rfl
            have hPz4 : PZ N τ4 (xpM 1 v) kn := PZ.s1 hPz hS4 hL4 rfl kK_xp
            have hs4 : (xpM 1 v).1 = (accY v.1) := (congrArg (xpY 1) rfl).trans (xp_y hc4)
            have r37_4 : aI τ4 37 = aI Y 37 := (hS4.2 37).trans rfl
            refine ⟨fun h7 => ?_, fun h7 => absurd h7 (by decide)⟩
            clear h7
            refine hB _ _ _ _ _ (fun m8 hm8 => ?_)
            dsimp only [ugo, uwp, ust, uct, rfd, Bmethod, Nat.beq, lv_args, rlk, rs1, rs2, rdl, rky, rcd, rno, rsw, Value.category, List.filter, List.take, List.drop, List.reverse, List.reverseAux, List.cons_append, List.nil_append, Option.toList, Int.toNat, Int.reduceToNat, if_pos, if_neg, reduceIte, ↓reduceIte, Nat.reduceAdd, Nat.reduceEqDiff, Nat.reduceBEq, beq_self_eq_true, Bool.not_true, Bool.not_false, Bool.and_true, Bool.and_false, Bool.true_and, Bool.false_and, gI_sI, gI_sL, gI_sA, gI_sM, gL_sI, gL_sL, gL_sA, gL_sM, aI_sI, aI_sL, aI_sA, aI_sM, aL_sI, aL_sL, aL_sA, aL_sM, Bmethod_0, Bmethod_8, Bmethod_19, Bmethod_24, Bmethod_41, Bmethod_43, Bmethod_56, Bmethod_61, Bmethod_70, Bmethod_80, Bmethod_141, Bmethod_150, Bmethod_152, Bmethod_161, Bmethod_165, Bmethod_166, Bmethod_168, Bmethod_173, Bmethod_182, Bmethod_184, Bmethod_197, Bmethod_204, Bmethod_206, Bmethod_215, Bmethod_217, Bmethod_246, Bmethod_257, Bmethod_259, Bmethod_266, Bmethod_273, Bmethod_275, oi_0, oi_1, oi_10, oi_123, oi_3, oi_40, oi_41, oi_44, oi_5, oi_m2]; try dsimp only
            intro p9
            have h62p : gI τ4 62 = 0 := hP4.2.1.2
            have e36 : gI τ4 36 + 1 - 1 = gI τ4 36 := by have q := hP4.2.2.2.1; lia
            have hn36 : (gI τ4 36 + 1 - 1).toInt = nm := by rw [e36, g6_4]; exact h37.1
            have ht37 : (aI τ4 37 (gI τ4 36 + 1 - 1).toNatClampNeg).toInt = tk := by rw [e36, r37_4, g6_4]; exact h37.2
            obtain ⟨hRn, hgn, hfn, h6n⟩ := SR.new (f := upd (aI τ4 41) mm.toNatClampNeg (gI τ4 18)) hP4
            have k9n : nT kk < nT (gI τ4 49) := by rw [g9_4]; exact hkk9
            have hZn := PZ.bz (lv := lvN 21) (x := [-1, -1, -1] ++ [0, nm, tk]) (f := upd (aI τ4 41) mm.toNatClampNeg (gI τ4 18)) (v := gI τ4 36 + 1) hPz4 (h62p)
            have hKn : KtR τ4 (arM (snM (xpM 1 v)) (beM 92 (lvN 21) (xpM 1 v))) := KtR.gh hPz4.2.2.2.2.2.2.2 rfl rfl
            refine ⟨trivial, fun w10 τ10 hq10 => ?_⟩
            obtain ⟨hq10, hL10⟩ := hq10
            have hq10 := hq10 _ (accY v.1) 21 2 ⟨(SR.x (e_ := 0) (by repeat (first | exact hRn | refine SR.i ?_ rfl | refine SR.a ?_ rfl))), by decide⟩
            rcases hq10 with ⟨rfl, hF10⟩ | ⟨rfl, hc10, hX10, hz10, hS10⟩
            · dsimp only [Option.toList, List.cons_append, List.nil_append, Nat.beq, gI_sI, gI_sL, gI_sA, gI_sM, gL_sI, gL_sL, gL_sA, gL_sM, aI_sI, aI_sL, aI_sA, aI_sM, aL_sI, aL_sL, aL_sA, aL_sM]
              refine ⟨fun h11 => ?_, fun h11 => absurd h11 (by decide)⟩
              clear h11
              refine hB _ _ _ _ _ (fun m12 hm12 => ?_)
              dsimp only [ugo, uwp, ust, uct, rfd, Bmethod, Nat.beq, lv_args, rlk, rs1, rs2, rdl, rky, rcd, rno, rsw, Value.category, List.filter, List.take, List.drop, List.reverse, List.reverseAux, List.cons_append, List.nil_append, Option.toList, Int.toNat, Int.reduceToNat, if_pos, if_neg, reduceIte, ↓reduceIte, Nat.reduceAdd, Nat.reduceEqDiff, Nat.reduceBEq, beq_self_eq_true, Bool.not_true, Bool.not_false, Bool.and_true, Bool.and_false, Bool.true_and, Bool.false_and, gI_sI, gI_sL, gI_sA, gI_sM, gL_sI, gL_sL, gL_sA, gL_sM, aI_sI, aI_sL, aI_sA, aI_sM, aL_sI, aL_sL, aL_sA, aL_sM, Bmethod_0, Bmethod_8, Bmethod_19, Bmethod_24, Bmethod_41, Bmethod_43, Bmethod_56, Bmethod_61, Bmethod_70, Bmethod_80, Bmethod_141, Bmethod_150, Bmethod_152, Bmethod_161, Bmethod_165, Bmethod_166, Bmethod_168, Bmethod_173, Bmethod_182, Bmethod_184, Bmethod_197, Bmethod_204, Bmethod_206, Bmethod_215, Bmethod_217, Bmethod_246, Bmethod_257, Bmethod_259, Bmethod_266, Bmethod_273, Bmethod_275, oi_0, oi_1, oi_10, oi_123, oi_3, oi_40, oi_41, oi_44, oi_5, oi_m2]; try dsimp only
              unfold Qv_methodZ
              try dsimp only
              rw [← hPhY, xp_y hc4]
              unfold bdY
              exact Or.inl ⟨rfl, FlR.g hF10 ((gd_rw _).tr (gd_xp _))⟩
            · dsimp only [Option.toList, List.cons_append, List.nil_append, Nat.beq, gI_sI, gI_sL, gI_sA, gI_sM, gL_sI, gL_sL, gL_sA, gL_sM, aI_sI, aI_sL, aI_sA, aI_sM, aL_sI, aL_sL, aL_sA, aL_sM]
              have hR10 := SR.kr (e_ := 0) (by repeat (first | exact hRn | refine SR.i ?_ rfl | refine SR.a ?_ rfl)) hX10 acc2
              have hg10 := FgR.kr (e_ := 0) (s := (accY v.1)) (n := 21) (by repeat (first | exact hgn | refine FgR.i ?_ rfl | refine FgR.a ?_ rfl)) (by repeat (first | exact hRn | refine SR.i ?_ rfl | refine SR.a ?_ rfl)) hX10
              have hf10 := frR_kr hX10
              have k6_10 : 0 < gI τ10 36 := by rw [hX10.2.2.1.1 36 rfl]; exact h6n
              have k9_10 : nT kk < nT (gI τ10 49) := by rw [hX10.2.2.1.1 49 rfl]; exact k9n
              have hZ10 : BZ N τ10 (xpM 2 (arM (snM (xpM 1 v)) (beM 92 (lvN 21) (xpM 1 v)))) [] [(0, snM (xpM 1 v), (0, kn), [-1, -1, -1] ++ [0, nm, tk], [])] := BZ.xp (by repeat (first | exact hZn | refine BZ.i ?_ rfl | refine BZ.a ?_ rfl)) hS10 hL10
              have hK10 : KtR τ10 (xpM 2 (arM (snM (xpM 1 v)) (beM 92 (lvN 21) (xpM 1 v)))) := KtR.xp (by repeat (first | exact hKn | refine KtR.i ?_ | refine KtR.a ?_ (by decide))) hS10
              have hs10 : (xpM 2 (arM (snM (xpM 1 v)) (beM 92 (lvN 21) (xpM 1 v)))).1 = (accY (accY v.1)) := (congrArg (xpY 2) hs4).trans (xp_y hc10)
              refine ⟨fun h13 => absurd h13 (by decide), fun h13 => ?_⟩
              clear h13
              refine hB _ _ _ _ _ (fun m14 hm14 => ?_)
              dsimp only [ugo, uwp, ust, uct, rfd, Bmethod, Nat.beq, lv_args, rlk, rs1, rs2, rdl, rky, rcd, rno, rsw, Value.category, List.filter, List.take, List.drop, List.reverse, List.reverseAux, List.cons_append, List.nil_append, Option.toList, Int.toNat, Int.reduceToNat, if_pos, if_neg, reduceIte, ↓reduceIte, Nat.reduceAdd, Nat.reduceEqDiff, Nat.reduceBEq, beq_self_eq_true, Bool.not_true, Bool.not_false, Bool.and_true, Bool.and_false, Bool.true_and, Bool.false_and, gI_sI, gI_sL, gI_sA, gI_sM, gL_sI, gL_sL, gL_sA, gL_sM, aI_sI, aI_sL, aI_sA, aI_sM, aL_sI, aL_sL, aL_sA, aL_sM, Bmethod_0, Bmethod_8, Bmethod_19, Bmethod_24, Bmethod_41, Bmethod_43, Bmethod_56, Bmethod_61, Bmethod_70, Bmethod_80, Bmethod_141, Bmethod_150, Bmethod_152, Bmethod_161, Bmethod_165, Bmethod_166, Bmethod_168, Bmethod_173, Bmethod_182, Bmethod_184, Bmethod_197, Bmethod_204, Bmethod_206, Bmethod_215, Bmethod_217, Bmethod_246, Bmethod_257, Bmethod_259, Bmethod_266, Bmethod_273, Bmethod_275, oi_0, oi_1, oi_10, oi_123, oi_3, oi_40, oi_41, oi_44, oi_5, oi_m2]; try dsimp only
              refine ⟨trivial, fun w15 τ15 hq15 => ?_⟩
              obtain ⟨hq15, hL15⟩ := hq15
              have hq15 := hq15 (accY (accY v.1)) 21 ⟨(by repeat (first | exact hR10 | refine SR.i ?_ rfl | refine SR.a ?_ rfl)), (by repeat (first | exact hg10 | refine FgR.i ?_ rfl | refine FgR.a ?_ rfl)), k9_10, by decide, (iff_of_true (by decide) (by simp only [frR_i, frR_a, ne_eq, Nat.reduceEqDiff, not_false_eq_true, hf10, hfn])), k6_10, (fun q => absurd q (by decide))⟩
              rcases hq15 with ⟨rfl, hn15, hF15⟩ | ⟨rfl, hn15, hR15, hg15, hf15, hOp15⟩
              · dsimp only [Option.toList, List.cons_append, List.nil_append, Nat.beq, gI_sI, gI_sL, gI_sA, gI_sM, gL_sI, gL_sL, gL_sA, gL_sM, aI_sI, aI_sL, aI_sA, aI_sM, aL_sI, aL_sL, aL_sA, aL_sM]
                refine ⟨fun h16 => absurd h16 (by decide), fun h16 => ?_⟩
                clear h16
                refine hB _ _ _ _ _ (fun m17 hm17 => ?_)
                dsimp only [ugo, uwp, ust, uct, rfd, Bmethod, Nat.beq, lv_args, rlk, rs1, rs2, rdl, rky, rcd, rno, rsw, Value.category, List.filter, List.take, List.drop, List.reverse, List.reverseAux, List.cons_append, List.nil_append, Option.toList, Int.toNat, Int.reduceToNat, if_pos, if_neg, reduceIte, ↓reduceIte, Nat.reduceAdd, Nat.reduceEqDiff, Nat.reduceBEq, beq_self_eq_true, Bool.not_true, Bool.not_false, Bool.and_true, Bool.and_false, Bool.true_and, Bool.false_and, gI_sI, gI_sL, gI_sA, gI_sM, gL_sI, gL_sL, gL_sA, gL_sM, aI_sI, aI_sL, aI_sA, aI_sM, aL_sI, aL_sL, aL_sA, aL_sM, Bmethod_0, Bmethod_8, Bmethod_19, Bmethod_24, Bmethod_41, Bmethod_43, Bmethod_56, Bmethod_61, Bmethod_70, Bmethod_80, Bmethod_141, Bmethod_150, Bmethod_152, Bmethod_161, Bmethod_165, Bmethod_166, Bmethod_168, Bmethod_173, Bmethod_182, Bmethod_184, Bmethod_197, Bmethod_204, Bmethod_206, Bmethod_215, Bmethod_217, Bmethod_246, Bmethod_257, Bmethod_259, Bmethod_266, Bmethod_273, Bmethod_275, oi_0, oi_1, oi_10, oi_123, oi_3, oi_40, oi_41, oi_44, oi_5, oi_m2]; try dsimp only
                unfold Qv_methodZ
                try dsimp only
                exfalso; omega
              · dsimp only [Option.toList, List.cons_append, List.nil_append, Nat.beq, gI_sI, gI_sL, gI_sA, gI_sM, gL_sI, gL_sL, gL_sA, gL_sM, aI_sI, aI_sL, aI_sA, aI_sM, aL_sI, aL_sL, aL_sA, aL_sM]
                have hf15 : frR τ15 = (0 : Int) :: _ := hf15
                have hZ15 : BZ N τ15 (xpM 2 (arM (snM (xpM 1 v)) (beM 92 (lvN 21) (xpM 1 v)))) [(0, snM (xpM 1 v), (0, kn), [-1, -1, -1] ++ [0, nm, tk], [])] [(0, snM (xpM 1 v), (0, kn), [-1, -1, -1] ++ [0, nm, tk], [])] := BZ.op (a := (0, snM (xpM 1 v), (0, kn), [-1, -1, -1] ++ [0, nm, tk], [])) (F := []) (z := (xpM 2 (arM (snM (xpM 1 v)) (beM 92 (lvN 21) (xpM 1 v))))) (by repeat (first | exact hZ10 | refine BZ.i ?_ rfl | refine BZ.a ?_ rfl)) hOp15 hL15 rfl hkk (fun q => absurd rfl q) ⟨(fun q => absurd (show (0 : Int) = 7 from q) (by decide)), (fun _ => ⟨(show (gI τ10 36 - 1).toInt = nm by rw [hS10.1 36 (by decide)]; exact hn36), (show (aI τ10 37 (gI τ10 36 - 1).toNatClampNeg).toInt = tk by rw [hS10.1 36 (by decide), hS10.2 37]; exact ht37)⟩)⟩ (fun q => absurd (show (0 : Int) = 9 from q) (by decide))
                have hK15 : KtR τ15 (xpM 2 (arM (snM (xpM 1 v)) (beM 92 (lvN 21) (xpM 1 v)))) := KtR.z (by repeat (first | exact hK10 | refine KtR.i ?_ | refine KtR.a ?_ (by decide))) rfl rfl (fun a h1 h2 => hOp15.2.2.2.1 a (by omega))
                have hs15 : (xpM 2 (arM (snM (xpM 1 v)) (beM 92 (lvN 21) (xpM 1 v)))).1 = (accY (accY v.1)) := hs10
                refine ⟨fun h18 => ?_, fun h18 => absurd h18 (by decide)⟩
                clear h18
                exact hW _ 259 [(0, .ref 1000)] _ _ _ (by simp [rdl, rky]) (t259 _ _ (xpM 2 (arM (snM (xpM 1 v)) (beM 92 (lvN 21) (xpM 1 v)))) 20 [(0, snM (xpM 1 v), (0, kn), [-1, -1, -1] ++ [0, nm, tk], [])] (by rw [show (xpM 2 (arM (snM (xpM 1 v)) (beM 92 (lvN 21) (xpM 1 v)))).1 = (accY (accY v.1)) from hs15]; exact (by repeat (first | exact hR15 | refine SR.i ?_ rfl | refine SR.a ?_ rfl))) (by repeat (first | exact hg15 | refine FgR.i ?_ rfl | refine FgR.a ?_ rfl)) (by repeat (first | exact hZ15 | refine BZ.i ?_ rfl | refine BZ.a ?_ rfl)) (by repeat (first | exact hK15 | refine KtR.i ?_ | refine KtR.a ?_ (by decide))) (fun b hb => by cases hb) (fun q => absurd (show (0 : Int) = 7 from q) (by decide)) (by rw [show (xpM 2 (arM (snM (xpM 1 v)) (beM 92 (lvN 21) (xpM 1 v)))).1 = (accY (accY v.1)) from hs15]; exact GpY.a1 (by repeat (first | with_reducible exact GpY.rf | with_reducible refine GpY.tr ?_ (gd_fo _) | with_reducible refine GpY.tr ?_ (gd_ef _) | with_reducible refine GpY.tr ?_ (gd_cf _) | with_reducible refine GpY.tr ?_ (gd_wt _) | with_reducible refine GpY.tr ?_ (gd_xp _) | with_reducible refine GpY.tr ?_ (gd_acc _) | with_reducible refine GpY.tr ?_ (gd_rai _) | with_reducible refine GpY.tr ?_ (gd_e _) | with_reducible refine GpY.tr ?_ (gd_o _) | with_reducible refine GpY.tr ?_ (gd_c _) | with_reducible refine GpY.tr ?_ (gd_op _) | with_reducible refine GpY.tr ?_ (gd_clp gd_e _ _) | with_reducible refine GpY.tr ?_ (gd_tl _) | with_reducible refine GpY.tr ?_ (gd_sf _ _ _) | with_reducible refine GpY.tr ?_ (gd_cl _) | with_reducible refine GpY.tr ?_ (gd_pc _) | with_reducible refine GpY.tr ?_ (gd_st _) | with_reducible refine GpY.tr ?_ (gd_rw _) | with_reducible refine GpY.tr ?_ (gd_typ _) | with_reducible refine GpY.tr ?_ (gd_dcl _) | with_reducible refine GpY.tr ?_ (gd_va2 _) | with_reducible refine GpY.tr ?_ (gd_cnd _) | with_reducible refine GpY.tr ?_ (gd_tr1 _) | with_reducible refine GpY.tr ?_ (gd_tr2 (fun _ => gd_rw) _) | with_reducible refine GpY.tr ?_ (gd_tr3 (fun _ => gd_rw) _) | with_reducible refine GpY.tr ?_ (gd_fo1 _) | with_reducible refine GpY.tr ?_ (gd_fo2 _) | with_reducible refine GpY.tr ?_ (gd_fo3 _) | with_reducible refine GpY.tr ?_ (gd_fex _) | with_reducible refine GpY.tr ?_ (pg_var.1) | with_reducible refine GpY.tr ?_ (pg_cas.1) | with_reducible refine GpY.tr ?_ (gd_bd _) | with_reducible refine GpY.tr ?_ (gd_pal _ _ _) | with_reducible refine GpY.tr ?_ (gd_pa3 _) | with_reducible refine GpY.tr ?_ (gd_par _) | with_reducible refine GpY.tr ?_ (gd_me2 _) | with_reducible refine GpY.tr ?_ (gd_me3 _) | with_reducible refine GpY.tr ?_ (gd_pa2 _) | with_reducible refine GpY.tr ?_ (gd_pa1 _) | with_reducible refine GpY.tr ?_ (gd_met _) | exact GpY.rf)) hP.1.a5.2 ha1) (by rw [← hPh]; exact mb_pc.symm) hMe)
        · refine hB _ _ _ _ _ (fun m19 hm19 => ?_)
          dsimp only [ugo, uwp, ust, uct, rfd, Bmethod, Nat.beq, lv_args, rlk, rs1, rs2, rdl, rky, rcd, rno, rsw, Value.category, List.filter, List.take, List.drop, List.reverse, List.reverseAux, List.cons_append, List.nil_append, Option.toList, Int.toNat, Int.reduceToNat, if_pos, if_neg, reduceIte, ↓reduceIte, Nat.reduceAdd, Nat.reduceEqDiff, Nat.reduceBEq, beq_self_eq_true, Bool.not_true, Bool.not_false, Bool.and_true, Bool.and_false, Bool.true_and, Bool.false_and, gI_sI, gI_sL, gI_sA, gI_sM, gL_sI, gL_sL, gL_sA, gL_sM, aI_sI, aI_sL, aI_sA, aI_sM, aL_sI, aL_sL, aL_sA, aL_sM, Bmethod_0, Bmethod_8, Bmethod_19, Bmethod_24, Bmethod_41, Bmethod_43, Bmethod_56, Bmethod_61, Bmethod_70, Bmethod_80, Bmethod_141, Bmethod_150, Bmethod_152, Bmethod_161, Bmethod_165, Bmethod_166, Bmethod_168, Bmethod_173, Bmethod_182, Bmethod_184, Bmethod_197, Bmethod_204, Bmethod_206, Bmethod_215, Bmethod_217, Bmethod_246, Bmethod_257, Bmethod_259, Bmethod_266, Bmethod_273, Bmethod_275, oi_0, oi_1, oi_10, oi_123, oi_3, oi_40, oi_41, oi_44, oi_5, oi_m2]; try dsimp only
          obtain ⟨-, hPh⟩ := hm.resolve_right (fun q => absurd q.1 (by lia))
          have hPhY : bdY (xpY 1 (palY (7 - i) i v.1)) = (meM N z).1 := by rw [← hPh, lf_mb, ← lf_pal (N := N)]; rfl
          have hi7 : i ≤ 6 := hP.2.2.2.2.2.1.2.2
          refine ⟨trivial, fun w20 τ20 hq20 => ?_⟩
          obtain ⟨hq20, hL20⟩ := hq20
          have hq20 := hq20 N v i kn ⟨hP, hmm, hPz, hkk⟩
          rcases hq20 with ⟨rfl, hF20⟩ | ⟨rfl, hi6, hP20, g6_20, g9_20, r37_20, hPz20⟩
          · dsimp only [Option.toList, List.cons_append, List.nil_append, Nat.beq, gI_sI, gI_sL, gI_sA, gI_sM, gL_sI, gL_sL, gL_sA, gL_sM, aI_sI, aI_sL, aI_sA, aI_sM, aL_sI, aL_sL, aL_sA, aL_sM]
            refine ⟨fun h21 => absurd h21 (by decide), fun h21 => ?_⟩
            clear h21
            refine hB _ _ _ _ _ (fun m22 hm22 => ?_)
            dsimp only [ugo, uwp, ust, uct, rfd, Bmethod, Nat.beq, lv_args, rlk, rs1, rs2, rdl, rky, rcd, rno, rsw, Value.category, List.filter, List.take, List.drop, List.reverse, List.reverseAux, List.cons_append, List.nil_append, Option.toList, Int.toNat, Int.reduceToNat, if_pos, if_neg, reduceIte, ↓reduceIte, Nat.reduceAdd, Nat.reduceEqDiff, Nat.reduceBEq, beq_self_eq_true, Bool.not_true, Bool.not_false, Bool.and_true, Bool.and_false, Bool.true_and, Bool.false_and, gI_sI, gI_sL, gI_sA, gI_sM, gL_sI, gL_sL, gL_sA, gL_sM, aI_sI, aI_sL, aI_sA, aI_sM, aL_sI, aL_sL, aL_sA, aL_sM, Bmethod_0, Bmethod_8, Bmethod_19, Bmethod_24, Bmethod_41, Bmethod_43, Bmethod_56, Bmethod_61, Bmethod_70, Bmethod_80, Bmethod_141, Bmethod_150, Bmethod_152, Bmethod_161, Bmethod_165, Bmethod_166, Bmethod_168, Bmethod_173, Bmethod_182, Bmethod_184, Bmethod_197, Bmethod_204, Bmethod_206, Bmethod_215, Bmethod_217, Bmethod_246, Bmethod_257, Bmethod_259, Bmethod_266, Bmethod_273, Bmethod_275, oi_0, oi_1, oi_10, oi_123, oi_3, oi_40, oi_41, oi_44, oi_5, oi_m2]; try dsimp only
            unfold Qv_methodZ
            try dsimp only
            rw [← hPhY]
            exact Or.inl ⟨rfl, FlR.g hF20 ((pal_g (by omega)).tr ((gd_xp _).tr (gd_bd _)))⟩
          · dsimp only [Option.toList, List.cons_append, List.nil_append, Nat.beq, gI_sI, gI_sL, gI_sA, gI_sM, gL_sI, gL_sL, gL_sA, gL_sM, aI_sI, aI_sL, aI_sA, aI_sM, aL_sI, aL_sL, aL_sA, aL_sM]
            have hs20 : (pa1M N i v).1 = pa1Y i v.1 := lf_pa1
            refine ⟨fun h23 => ?_, fun h23 => absurd h23 (by decide)⟩
            clear h23
            refine hB _ _ _ _ _ (fun m24 hm24 => ?_)
            dsimp only [ugo, uwp, ust, uct, rfd, Bmethod, Nat.beq, lv_args, rlk, rs1, rs2, rdl, rky, rcd, rno, rsw, Value.category, List.filter, List.take, List.drop, List.reverse, List.reverseAux, List.cons_append, List.nil_append, Option.toList, Int.toNat, Int.reduceToNat, if_pos, if_neg, reduceIte, ↓reduceIte, Nat.reduceAdd, Nat.reduceEqDiff, Nat.reduceBEq, beq_self_eq_true, Bool.not_true, Bool.not_false, Bool.and_true, Bool.and_false, Bool.true_and, Bool.false_and, gI_sI, gI_sL, gI_sA, gI_sM, gL_sI, gL_sL, gL_sA, gL_sM, aI_sI, aI_sL, aI_sA, aI_sM, aL_sI, aL_sL, aL_sA, aL_sM, Bmethod_0, Bmethod_8, Bmethod_19, Bmethod_24, Bmethod_41, Bmethod_43, Bmethod_56, Bmethod_61, Bmethod_70, Bmethod_80, Bmethod_141, Bmethod_150, Bmethod_152, Bmethod_161, Bmethod_165, Bmethod_166, Bmethod_168, Bmethod_173, Bmethod_182, Bmethod_184, Bmethod_197, Bmethod_204, Bmethod_206, Bmethod_215, Bmethod_217, Bmethod_246, Bmethod_257, Bmethod_259, Bmethod_266, Bmethod_273, Bmethod_275, oi_0, oi_1, oi_10, oi_123, oi_3, oi_40, oi_41, oi_44, oi_5, oi_m2]; try dsimp only
            refine ⟨trivial, fun w25 τ25 hq25 => ?_⟩
            obtain ⟨hq25, hL25⟩ := hq25
            obtain ⟨rfl, b25, rfl, hb25⟩ := hq25 trivial
            have he25 := (XrR.s (PaR.x hP20)).sg (x := 44) (d := 5) (by decide)
            rcases hb25 with ⟨rfl, hk25⟩ | ⟨rfl, hk25⟩
            · dsimp only [Option.toList, List.cons_append, List.nil_append, Nat.beq, gI_sI, gI_sL, gI_sA, gI_sM, gL_sI, gL_sL, gL_sA, gL_sM, aI_sI, aI_sL, aI_sA, aI_sM, aL_sI, aL_sL, aL_sA, aL_sM]
              have hc25 : codY (pa1Y i v.1) = 5 := he25.mp hk25
              refine ⟨fun h26 => absurd h26 (by decide), fun h26 => ?_⟩
              clear h26
              refine hB _ _ _ _ _ (fun m27 hm27 => ?_)
              dsimp only [ugo, uwp, ust, uct, rfd, Bmethod, Nat.beq, lv_args, rlk, rs1, rs2, rdl, rky, rcd, rno, rsw, Value.category, List.filter, List.take, List.drop, List.reverse, List.reverseAux, List.cons_append, List.nil_append, Option.toList, Int.toNat, Int.reduceToNat, if_pos, if_neg, reduceIte, ↓reduceIte, Nat.reduceAdd, Nat.reduceEqDiff, Nat.reduceBEq, beq_self_eq_true, Bool.not_true, Bool.not_false, Bool.and_true, Bool.and_false, Bool.true_and, Bool.false_and, gI_sI, gI_sL, gI_sA, gI_sM, gL_sI, gL_sL, gL_sA, gL_sM, aI_sI, aI_sL, aI_sA, aI_sM, aL_sI, aL_sL, aL_sA, aL_sM, Bmethod_0, Bmethod_8, Bmethod_19, Bmethod_24, Bmethod_41, Bmethod_43, Bmethod_56, Bmethod_61, Bmethod_70, Bmethod_80, Bmethod_141, Bmethod_150, Bmethod_152, Bmethod_161, Bmethod_165, Bmethod_166, Bmethod_168, Bmethod_173, Bmethod_182, Bmethod_184, Bmethod_197, Bmethod_204, Bmethod_206, Bmethod_215, Bmethod_217, Bmethod_246, Bmethod_257, Bmethod_259, Bmethod_266, Bmethod_273, Bmethod_275, oi_0, oi_1, oi_10, oi_123, oi_3, oi_40, oi_41, oi_44, oi_5, oi_m2]; try dsimp only
              refine ⟨trivial, fun w28 τ28 hq28 => ?_⟩
              obtain ⟨hq28, hL28⟩ := hq28
              have hq28 := hq28 _ (pa1Y i v.1) 21 ⟨(PaR.x hP20), by omega, by omega⟩
              rcases hq28 with ⟨rfl, hF28⟩ | ⟨rfl, hX28, hz28, hS28⟩
              · dsimp only [Option.toList, List.cons_append, List.nil_append, Nat.beq, gI_sI, gI_sL, gI_sA, gI_sM, gL_sI, gL_sL, gL_sA, gL_sM, aI_sI, aI_sL, aI_sA, aI_sM, aL_sI, aL_sL, aL_sA, aL_sM]
                refine ⟨fun h29 => absurd h29 (by decide), fun h29 => ?_⟩
                clear h29
                refine hB _ _ _ _ _ (fun m30 hm30 => ?_)
                dsimp only [ugo, uwp, ust, uct, rfd, Bmethod, Nat.beq, lv_args, rlk, rs1, rs2, rdl, rky, rcd, rno, rsw, Value.category, List.filter, List.take, List.drop, List.reverse, List.reverseAux, List.cons_append, List.nil_append, Option.toList, Int.toNat, Int.reduceToNat, if_pos, if_neg, reduceIte, ↓reduceIte, Nat.reduceAdd, Nat.reduceEqDiff, Nat.reduceBEq, beq_self_eq_true, Bool.not_true, Bool.not_false, Bool.and_true, Bool.and_false, Bool.true_and, Bool.false_and, gI_sI, gI_sL, gI_sA, gI_sM, gL_sI, gL_sL, gL_sA, gL_sM, aI_sI, aI_sL, aI_sA, aI_sM, aL_sI, aL_sL, aL_sA, aL_sM, Bmethod_0, Bmethod_8, Bmethod_19, Bmethod_24, Bmethod_41, Bmethod_43, Bmethod_56, Bmethod_61, Bmethod_70, Bmethod_80, Bmethod_141, Bmethod_150, Bmethod_152, Bmethod_161, Bmethod_165, Bmethod_166, Bmethod_168, Bmethod_173, Bmethod_182, Bmethod_184, Bmethod_197, Bmethod_204, Bmethod_206, Bmethod_215, Bmethod_217, Bmethod_246, Bmethod_257, Bmethod_259, Bmethod_266, Bmethod_273, Bmethod_275, oi_0, oi_1, oi_10, oi_123, oi_3, oi_40, oi_41, oi_44, oi_5, oi_m2]; try dsimp only
                unfold Qv_methodZ
                try dsimp only
                rw [← hPhY, pal_y (i := i) (s := v.1) (by omega) (by assumption)]
                exact Or.inl ⟨rfl, FlR.g hF28 ((gd_pal _ _ _).tr ((gd_xp _).tr (gd_bd _)))⟩
              · dsimp only [Option.toList, List.cons_append, List.nil_append, Nat.beq, gI_sI, gI_sL, gI_sA, gI_sM, gL_sI, gL_sL, gL_sA, gL_sM, aI_sI, aI_sL, aI_sA, aI_sM, aL_sI, aL_sL, aL_sA, aL_sM]
                have hP28 := PaR.s1 hP20 hX28 hS28
                have g6_28 : gI τ28 36 = gI Y 36 := (hS28.1 36 (by decide)).trans g6_20
                have g9_28 : gI τ28 49 = gI Y 49 := (hS28.1 49 (by decide)).trans g9_20
                have hPz28 : PZ N τ28 (accM (pa1M N i v)) kn := PZ.s1 hPz20 hS28 hL28 rfl kK_acc
                have hs28 : (accM (pa1M N i v)).1 = (accY (pa1Y i v.1)) := congrArg accY hs20
                have r37_28 : aI τ28 37 = aI Y 37 := (hS28.2 37).trans r37_20
                refine ⟨fun h31 => ?_, fun h31 => absurd h31 (by decide)⟩
                clear h31
                exact hW _ 168 [(0, .ref 1000), (1, .int ty), (2, .int mm), (3, .int kk), (4, .int 1)] _ _ _ (by simp [rdl, rky]) (t168 _ (by omega) _ nm tk kn (accM (pa1M N i v)) (i + 1) ty mm kk 1 (by rw [show (accM (pa1M N i v)).1 = (accY (pa1Y i v.1)) from hs28]; exact hP28) (hmm.trans g6_28.symm) hPz28 hkk ⟨by rw [g6_28]; exact h37.1, by rw [g6_28, r37_28]; exact h37.2⟩ (by show 1 ≤ zAt (accY (pa1M N i v).1); rw [lf_pa1]; exact GpY.a1 ((gd_pa1 _).tr (gd_acc _)) hP.1.a5.2 ha1) hMe (Or.inl ⟨rfl, by rw [← hPh, pal_yM (i := i) (z := v) (by omega) (by rw [lf_pa1]; assumption)]⟩))
            · dsimp only [Option.toList, List.cons_append, List.nil_append, Nat.beq, gI_sI, gI_sL, gI_sA, gI_sM, gL_sI, gL_sL, gL_sA, gL_sM, aI_sI, aI_sL, aI_sA, aI_sM, aL_sI, aL_sL, aL_sA, aL_sM]
              have hc25 : ¬ codY (pa1Y i v.1) = 5 := fun q => hk25 (he25.mpr q)
              refine ⟨fun h32 => ?_, fun h32 => absurd h32 (by decide)⟩
              clear h32
              exact hW _ 168 [(0, .ref 1000), (1, .int ty), (2, .int mm), (3, .int kk), (4, .int 0)] _ _ _ (by simp [rdl, rky]) (t168 _ (by omega) _ nm tk kn (pa1M N i v) (i + 1) ty mm kk 0 (by rw [show (pa1M N i v).1 = (pa1Y i v.1) from hs20]; exact hP20) (hmm.trans g6_20.symm) hPz20 hkk ⟨by rw [g6_20]; exact h37.1, by rw [g6_20, r37_20]; exact h37.2⟩ (by rw [lf_pa1]; exact GpY.a1 (gd_pa1 _) hP.1.a5.2 ha1) hMe (Or.inr ⟨rfl, by rw [← hPh, pal_nM (i := i) (z := v) (by omega) (by rw [lf_pa1]; assumption)]⟩))
    intro n0_
    refine hB _ _ _ _ _ (fun m1 hm1 => ?_)
    dsimp only [ugo, uwp, ust, uct, rfd, Bmethod, Nat.beq, lv_args, rlk, rs1, rs2, rdl, rky, rcd, rno, rsw, Value.category, List.filter, List.take, List.drop, List.reverse, List.reverseAux, List.cons_append, List.nil_append, Option.toList, Int.toNat, Int.reduceToNat, if_pos, if_neg, reduceIte, ↓reduceIte, Nat.reduceAdd, Nat.reduceEqDiff, Nat.reduceBEq, beq_self_eq_true, Bool.not_true, Bool.not_false, Bool.and_true, Bool.and_false, Bool.true_and, Bool.false_and, gI_sI, gI_sL, gI_sA, gI_sM, gL_sI, gL_sL, gL_sA, gL_sM, aI_sI, aI_sL, aI_sA, aI_sM, aL_sI, aL_sL, aL_sA, aL_sM, Bmethod_0, Bmethod_8, Bmethod_19, Bmethod_24, Bmethod_41, Bmethod_43, Bmethod_56, Bmethod_61, Bmethod_70, Bmethod_80, Bmethod_141, Bmethod_150, Bmethod_152, Bmethod_161, Bmethod_165, Bmethod_166, Bmethod_168, Bmethod_173, Bmethod_182, Bmethod_184, Bmethod_197, Bmethod_204, Bmethod_206, Bmethod_215, Bmethod_217, Bmethod_246, Bmethod_257, Bmethod_259, Bmethod_266, Bmethod_273, Bmethod_275, oi_0, oi_1, oi_10, oi_123, oi_3, oi_40, oi_41, oi_44, oi_5, oi_m2]; try dsimp only
    refine ⟨trivial, fun w2 τ2 hq2 => ?_⟩
    obtain ⟨hq2, hL2⟩ := hq2
    obtain ⟨rfl, b2, rfl, hb2⟩ := hq2 trivial
    have he2 := (XrR.s (MhR.x hM)).wd (x := 5) (by decide)
    rcases hb2 with ⟨rfl, hk2⟩ | ⟨rfl, hk2⟩
    · dsimp only [Option.toList, List.cons_append, List.nil_append, Nat.beq, gI_sI, gI_sL, gI_sA, gI_sM, gL_sI, gL_sL, gL_sA, gL_sM, aI_sI, aI_sL, aI_sA, aI_sM, aL_sI, aL_sL, aL_sA, aL_sM]
      have hc2 : codY z.1 = 55 := he2.mp hk2
      refine ⟨fun h3 => ?_, fun h3 => absurd h3 (by decide)⟩
      clear h3
      refine hB _ _ _ _ _ (fun m4 hm4 => ?_)
      dsimp only [ugo, uwp, ust, uct, rfd, Bmethod, Nat.beq, lv_args, rlk, rs1, rs2, rdl, rky, rcd, rno, rsw, Value.category, List.filter, List.take, List.drop, List.reverse, List.reverseAux, List.cons_append, List.nil_append, Option.toList, Int.toNat, Int.reduceToNat, if_pos, if_neg, reduceIte, ↓reduceIte, Nat.reduceAdd, Nat.reduceEqDiff, Nat.reduceBEq, beq_self_eq_true, Bool.not_true, Bool.not_false, Bool.and_true, Bool.and_false, Bool.true_and, Bool.false_and, gI_sI, gI_sL, gI_sA, gI_sM, gL_sI, gL_sL, gL_sA, gL_sM, aI_sI, aI_sL, aI_sA, aI_sM, aL_sI, aL_sL, aL_sA, aL_sM, Bmethod_0, Bmethod_8, Bmethod_19, Bmethod_24, Bmethod_41, Bmethod_43, Bmethod_56, Bmethod_61, Bmethod_70, Bmethod_80, Bmethod_141, Bmethod_150, Bmethod_152, Bmethod_161, Bmethod_165, Bmethod_166, Bmethod_168, Bmethod_173, Bmethod_182, Bmethod_184, Bmethod_197, Bmethod_204, Bmethod_206, Bmethod_215, Bmethod_217, Bmethod_246, Bmethod_257, Bmethod_259, Bmethod_266, Bmethod_273, Bmethod_275, oi_0, oi_1, oi_10, oi_123, oi_3, oi_40, oi_41, oi_44, oi_5, oi_m2]; try dsimp only
      have hcd : (50 ≤ codY z.1 ∧ codY z.1 ≤ 54) ∨ codY z.1 = 55 := by omega
      intro p5
      refine ⟨trivial, fun w6 τ6 hq6 => ?_⟩
      obtain ⟨hq6, hL6⟩ := hq6
      have hq6 := hq6 _ z.1 21 ⟨MhR.x hM, by omega, by omega⟩
      rcases hq6 with ⟨rfl, hF6⟩ | ⟨rfl, hX6, hz6, hS6⟩
      · dsimp only [Option.toList, List.cons_append, List.nil_append, Nat.beq, gI_sI, gI_sL, gI_sA, gI_sM, gL_sI, gL_sL, gL_sA, gL_sM, aI_sI, aI_sL, aI_sA, aI_sM, aL_sI, aL_sL, aL_sA, aL_sM]
        refine ⟨fun h7 => absurd h7 (by decide), fun h7 => ?_⟩
        clear h7
        refine hB _ _ _ _ _ (fun m8 hm8 => ?_)
        dsimp only [ugo, uwp, ust, uct, rfd, Bmethod, Nat.beq, lv_args, rlk, rs1, rs2, rdl, rky, rcd, rno, rsw, Value.category, List.filter, List.take, List.drop, List.reverse, List.reverseAux, List.cons_append, List.nil_append, Option.toList, Int.toNat, Int.reduceToNat, if_pos, if_neg, reduceIte, ↓reduceIte, Nat.reduceAdd, Nat.reduceEqDiff, Nat.reduceBEq, beq_self_eq_true, Bool.not_true, Bool.not_false, Bool.and_true, Bool.and_false, Bool.true_and, Bool.false_and, gI_sI, gI_sL, gI_sA, gI_sM, gL_sI, gL_sL, gL_sA, gL_sM, aI_sI, aI_sL, aI_sA, aI_sM, aL_sI, aL_sL, aL_sA, aL_sM, Bmethod_0, Bmethod_8, Bmethod_19, Bmethod_24, Bmethod_41, Bmethod_43, Bmethod_56, Bmethod_61, Bmethod_70, Bmethod_80, Bmethod_141, Bmethod_150, Bmethod_152, Bmethod_161, Bmethod_165, Bmethod_166, Bmethod_168, Bmethod_173, Bmethod_182, Bmethod_184, Bmethod_197, Bmethod_204, Bmethod_206, Bmethod_215, Bmethod_217, Bmethod_246, Bmethod_257, Bmethod_259, Bmethod_266, Bmethod_273, Bmethod_275, oi_0, oi_1, oi_10, oi_123, oi_3, oi_40, oi_41, oi_44, oi_5, oi_m2]; try dsimp only
        unfold Qv_methodZ
        try dsimp only
        rw [lf_me]
        unfold mthY
        refine Or.inl ⟨rfl, FlR.g hF6 ?_⟩
        rw [me1_y hcd]
        exact (by repeat (first | with_reducible exact GpY.rf | with_reducible refine GpY.tr ?_ (gd_fo _) | with_reducible refine GpY.tr ?_ (gd_ef _) | with_reducible refine GpY.tr ?_ (gd_cf _) | with_reducible refine GpY.tr ?_ (gd_wt _) | with_reducible refine GpY.tr ?_ (gd_xp _) | with_reducible refine GpY.tr ?_ (gd_acc _) | with_reducible refine GpY.tr ?_ (gd_rai _) | with_reducible refine GpY.tr ?_ (gd_e _) | with_reducible refine GpY.tr ?_ (gd_o _) | with_reducible refine GpY.tr ?_ (gd_c _) | with_reducible refine GpY.tr ?_ (gd_op _) | with_reducible refine GpY.tr ?_ (gd_clp gd_e _ _) | with_reducible refine GpY.tr ?_ (gd_tl _) | with_reducible refine GpY.tr ?_ (gd_sf _ _ _) | with_reducible refine GpY.tr ?_ (gd_cl _) | with_reducible refine GpY.tr ?_ (gd_pc _) | with_reducible refine GpY.tr ?_ (gd_st _) | with_reducible refine GpY.tr ?_ (gd_rw _) | with_reducible refine GpY.tr ?_ (gd_typ _) | with_reducible refine GpY.tr ?_ (gd_dcl _) | with_reducible refine GpY.tr ?_ (gd_va2 _) | with_reducible refine GpY.tr ?_ (gd_cnd _) | with_reducible refine GpY.tr ?_ (gd_tr1 _) | with_reducible refine GpY.tr ?_ (gd_tr2 (fun _ => gd_rw) _) | with_reducible refine GpY.tr ?_ (gd_tr3 (fun _ => gd_rw) _) | with_reducible refine GpY.tr ?_ (gd_fo1 _) | with_reducible refine GpY.tr ?_ (gd_fo2 _) | with_reducible refine GpY.tr ?_ (gd_fo3 _) | with_reducible refine GpY.tr ?_ (gd_fex _) | with_reducible refine GpY.tr ?_ (pg_var.1) | with_reducible refine GpY.tr ?_ (pg_cas.1) | with_reducible refine GpY.tr ?_ (gd_bd _) | with_reducible refine GpY.tr ?_ (gd_pal _ _ _) | with_reducible refine GpY.tr ?_ (gd_pa3 _) | with_reducible refine GpY.tr ?_ (gd_par _) | with_reducible refine GpY.tr ?_ (gd_me2 _) | with_reducible refine GpY.tr ?_ (gd_me3 _) | with_reducible refine GpY.tr ?_ (gd_pa2 _) | with_reducible refine GpY.tr ?_ (gd_pa1 _) | with_reducible refine GpY.tr ?_ (gd_met _) | exact GpY.rf))
      · dsimp only [Option.toList, List.cons_append, List.nil_append, Nat.beq, gI_sI, gI_sL, gI_sA, gI_sM, gL_sI, gL_sL, gL_sA, gL_sM, aI_sI, aI_sL, aI_sA, aI_sM, aL_sI, aL_sL, aL_sA, aL_sM]
        have hM6 := MhR.s1 hM hX6 hS6
        have hMz6 : MZ N τ6 (accM z) := MZ.s1 hMz hS6 hL6 rfl kK_acc
        have hs6 : (accM z).1 = (accY z.1) := congrArg accY rfl
        refine ⟨fun h9 => ?_, fun h9 => absurd h9 (by decide)⟩
        clear h9
        refine hB _ _ _ _ _ (fun m10 hm10 => ?_)
        dsimp only [ugo, uwp, ust, uct, rfd, Bmethod, Nat.beq, lv_args, rlk, rs1, rs2, rdl, rky, rcd, rno, rsw, Value.category, List.filter, List.take, List.drop, List.reverse, List.reverseAux, List.cons_append, List.nil_append, Option.toList, Int.toNat, Int.reduceToNat, if_pos, if_neg, reduceIte, ↓reduceIte, Nat.reduceAdd, Nat.reduceEqDiff, Nat.reduceBEq, beq_self_eq_true, Bool.not_true, Bool.not_false, Bool.and_true, Bool.and_false, Bool.true_and, Bool.false_and, gI_sI, gI_sL, gI_sA, gI_sM, gL_sI, gL_sL, gL_sA, gL_sM, aI_sI, aI_sL, aI_sA, aI_sM, aL_sI, aL_sL, aL_sA, aL_sM, Bmethod_0, Bmethod_8, Bmethod_19, Bmethod_24, Bmethod_41, Bmethod_43, Bmethod_56, Bmethod_61, Bmethod_70, Bmethod_80, Bmethod_141, Bmethod_150, Bmethod_152, Bmethod_161, Bmethod_165, Bmethod_166, Bmethod_168, Bmethod_173, Bmethod_182, Bmethod_184, Bmethod_197, Bmethod_204, Bmethod_206, Bmethod_215, Bmethod_217, Bmethod_246, Bmethod_257, Bmethod_259, Bmethod_266, Bmethod_273, Bmethod_275, oi_0, oi_1, oi_10, oi_123, oi_3, oi_40, oi_41, oi_44, oi_5, oi_m2]; try dsimp only
        intro p11
        refine ⟨fun h12 => ?_, fun h12 => ?_⟩
        · refine hB _ _ _ _ _ (fun m13 hm13 => ?_)
          dsimp only [ugo, uwp, ust, uct, rfd, Bmethod, Nat.beq, lv_args, rlk, rs1, rs2, rdl, rky, rcd, rno, rsw, Value.category, List.filter, List.take, List.drop, List.reverse, List.reverseAux, List.cons_append, List.nil_append, Option.toList, Int.toNat, Int.reduceToNat, if_pos, if_neg, reduceIte, ↓reduceIte, Nat.reduceAdd, Nat.reduceEqDiff, Nat.reduceBEq, beq_self_eq_true, Bool.not_true, Bool.not_false, Bool.and_true, Bool.and_false, Bool.true_and, Bool.false_and, gI_sI, gI_sL, gI_sA, gI_sM, gL_sI, gL_sL, gL_sA, gL_sM, aI_sI, aI_sL, aI_sA, aI_sM, aL_sI, aL_sL, aL_sA, aL_sM, Bmethod_0, Bmethod_8, Bmethod_19, Bmethod_24, Bmethod_41, Bmethod_43, Bmethod_56, Bmethod_61, Bmethod_70, Bmethod_80, Bmethod_141, Bmethod_150, Bmethod_152, Bmethod_161, Bmethod_165, Bmethod_166, Bmethod_168, Bmethod_173, Bmethod_182, Bmethod_184, Bmethod_197, Bmethod_204, Bmethod_206, Bmethod_215, Bmethod_217, Bmethod_246, Bmethod_257, Bmethod_259, Bmethod_266, Bmethod_273, Bmethod_275, oi_0, oi_1, oi_10, oi_123, oi_3, oi_40, oi_41, oi_44, oi_5, oi_m2]; try dsimp only
          have hcn := hM6.1.ki.2.2.1.mp (by exact h12)
          have hMm := hM6
          refine ⟨fun h14 => ?_, fun h14 => ?_⟩
          · refine hB _ _ _ _ _ (fun m15 hm15 => ?_)
            dsimp only [ugo, uwp, ust, uct, rfd, Bmethod, Nat.beq, lv_args, rlk, rs1, rs2, rdl, rky, rcd, rno, rsw, Value.category, List.filter, List.take, List.drop, List.reverse, List.reverseAux, List.cons_append, List.nil_append, Option.toList, Int.toNat, Int.reduceToNat, if_pos, if_neg, reduceIte, ↓reduceIte, Nat.reduceAdd, Nat.reduceEqDiff, Nat.reduceBEq, beq_self_eq_true, Bool.not_true, Bool.not_false, Bool.and_true, Bool.and_false, Bool.true_and, Bool.false_and, gI_sI, gI_sL, gI_sA, gI_sM, gL_sI, gL_sL, gL_sA, gL_sM, aI_sI, aI_sL, aI_sA, aI_sM, aL_sI, aL_sL, aL_sA, aL_sM, Bmethod_0, Bmethod_8, Bmethod_19, Bmethod_24, Bmethod_41, Bmethod_43, Bmethod_56, Bmethod_61, Bmethod_70, Bmethod_80, Bmethod_141, Bmethod_150, Bmethod_152, Bmethod_161, Bmethod_165, Bmethod_166, Bmethod_168, Bmethod_173, Bmethod_182, Bmethod_184, Bmethod_197, Bmethod_204, Bmethod_206, Bmethod_215, Bmethod_217, Bmethod_246, Bmethod_257, Bmethod_259, Bmethod_266, Bmethod_273, Bmethod_275, oi_0, oi_1, oi_10, oi_123, oi_3, oi_40, oi_41, oi_44, oi_5, oi_m2]; try dsimp only
            have h10 : ¬ gI τ6 36 = 10 := by lia
            have hl10 : ¬ 10 ≤ (zMs (accY z.1)).length := by
              rw [hM6.2.2.2.1, mlR_l]
              have q1 := hM6.2.2.2.2.1
              have q2 := nT_lt q1.1 (show gI τ6 36 < 10 by lia)
              have q3 : nT (10 : Int32) = 10 := rfl
              omega
            have hMt : mthY z.1 = bdY (xpY 1 (pa3Y (xpY 0 (accY (metY (aI σ 6 (gI σ 14).toNatClampNeg).toInt (accY z.1)))))) := by
              unfold mthY
              rw [me1_y hcd, me2_y hcn hl10, me3_y hM6.1.1.1, ← hM.1.ty2 (by omega)]
              rfl
            have hMe0 := me_yM (N := N) hcd hcn hl10 hM6.1.1.1
            rw [← hM.1.ty2 (by omega)] at hMe0
            intro p16
            intro p17
            intro p18
            intro p19
            refine ⟨trivial, fun w20 τ20 hq20 => ?_⟩
            obtain ⟨hq20, hL20⟩ := hq20
            obtain ⟨rfl, hTz20⟩ := hq20 trivial
            have hT20 := hTz20.1
            have hP20 : PaR τ20 (metY (aI σ 6 (gI σ 14).toNatClampNeg).toInt (accY z.1)) 0 := PaR.new hM6 h10 hT20
            have hk20 := th49 hT20
            dsimp only [Option.toList, List.cons_append, List.nil_append, Nat.beq, gI_sI, gI_sL, gI_sA, gI_sM, gL_sI, gL_sL, gL_sA, gL_sM, aI_sI, aI_sL, aI_sA, aI_sM, aL_sI, aL_sL, aL_sA, aL_sM]
            have hcm : codY (metY (aI σ 6 (gI σ 14).toNatClampNeg).toInt (accY z.1)) = 80 := hcn
            have hPz20 : PZ N τ20 (me0M (aI σ 6 (gI σ 14).toNatClampNeg).toInt (accM z)) (tnM (accM z)) := MZ.me (ty' := (aI σ 6 (gI σ 14).toNatClampNeg).toInt) hMz6 hTz20 hL20
            have hs20 : (me0M (aI σ 6 (gI σ 14).toNatClampNeg).toInt (accM z)).1 = (metY (aI σ 6 (gI σ 14).toNatClampNeg).toInt (accY z.1)) := congrArg (metY (aI σ 6 (gI σ 14).toNatClampNeg).toInt) hs6
            have hkk : (gI τ6 49).toInt = (tnM (accM z) : Int) := by rw [toI_n hMz6.2.2.2.2.1.1, hMz6.2.1]
            have g36t : gI τ20 36 = gI τ6 36 := hT20.1 36 (by decide)
            have g37t : aI τ20 37 = upd (aI τ6 37) (gI τ6 36).toNatClampNeg (gI τ6 14) := (hT20.2.2.2.1 37 (by omega)).trans rfl
            refine ⟨trivial, fun w21 τ21 hq21 => ?_⟩
            obtain ⟨hq21, hL21⟩ := hq21
            have hq21 := hq21 _ (metY (aI σ 6 (gI σ 14).toNatClampNeg).toInt (accY z.1)) 21 ⟨(PaR.x hP20), by omega, by omega⟩
            rcases hq21 with ⟨rfl, hF21⟩ | ⟨rfl, hX21, hz21, hS21⟩
            · dsimp only [Option.toList, List.cons_append, List.nil_append, Nat.beq, gI_sI, gI_sL, gI_sA, gI_sM, gL_sI, gL_sL, gL_sA, gL_sM, aI_sI, aI_sL, aI_sA, aI_sM, aL_sI, aL_sL, aL_sA, aL_sM]
              refine ⟨fun h22 => ?_, fun h22 => absurd h22 (by decide)⟩
              clear h22
              refine hB _ _ _ _ _ (fun m23 hm23 => ?_)
              dsimp only [ugo, uwp, ust, uct, rfd, Bmethod, Nat.beq, lv_args, rlk, rs1, rs2, rdl, rky, rcd, rno, rsw, Value.category, List.filter, List.take, List.drop, List.reverse, List.reverseAux, List.cons_append, List.nil_append, Option.toList, Int.toNat, Int.reduceToNat, if_pos, if_neg, reduceIte, ↓reduceIte, Nat.reduceAdd, Nat.reduceEqDiff, Nat.reduceBEq, beq_self_eq_true, Bool.not_true, Bool.not_false, Bool.and_true, Bool.and_false, Bool.true_and, Bool.false_and, gI_sI, gI_sL, gI_sA, gI_sM, gL_sI, gL_sL, gL_sA, gL_sM, aI_sI, aI_sL, aI_sA, aI_sM, aL_sI, aL_sL, aL_sA, aL_sM, Bmethod_0, Bmethod_8, Bmethod_19, Bmethod_24, Bmethod_41, Bmethod_43, Bmethod_56, Bmethod_61, Bmethod_70, Bmethod_80, Bmethod_141, Bmethod_150, Bmethod_152, Bmethod_161, Bmethod_165, Bmethod_166, Bmethod_168, Bmethod_173, Bmethod_182, Bmethod_184, Bmethod_197, Bmethod_204, Bmethod_206, Bmethod_215, Bmethod_217, Bmethod_246, Bmethod_257, Bmethod_259, Bmethod_266, Bmethod_273, Bmethod_275, oi_0, oi_1, oi_10, oi_123, oi_3, oi_40, oi_41, oi_44, oi_5, oi_m2]; try dsimp only
              unfold Qv_methodZ
              try dsimp only
              rw [lf_me, hMt]
              exact Or.inl ⟨rfl, FlR.g hF21 (by repeat (first | with_reducible exact GpY.rf | with_reducible refine GpY.tr ?_ (gd_fo _) | with_reducible refine GpY.tr ?_ (gd_ef _) | with_reducible refine GpY.tr ?_ (gd_cf _) | with_reducible refine GpY.tr ?_ (gd_wt _) | with_reducible refine GpY.tr ?_ (gd_xp _) | with_reducible refine GpY.tr ?_ (gd_acc _) | with_reducible refine GpY.tr ?_ (gd_rai _) | with_reducible refine GpY.tr ?_ (gd_e _) | with_reducible refine GpY.tr ?_ (gd_o _) | with_reducible refine GpY.tr ?_ (gd_c _) | with_reducible refine GpY.tr ?_ (gd_op _) | with_reducible refine GpY.tr ?_ (gd_clp gd_e _ _) | with_reducible refine GpY.tr ?_ (gd_tl _) | with_reducible refine GpY.tr ?_ (gd_sf _ _ _) | with_reducible refine GpY.tr ?_ (gd_cl _) | with_reducible refine GpY.tr ?_ (gd_pc _) | with_reducible refine GpY.tr ?_ (gd_st _) | with_reducible refine GpY.tr ?_ (gd_rw _) | with_reducible refine GpY.tr ?_ (gd_typ _) | with_reducible refine GpY.tr ?_ (gd_dcl _) | with_reducible refine GpY.tr ?_ (gd_va2 _) | with_reducible refine GpY.tr ?_ (gd_cnd _) | with_reducible refine GpY.tr ?_ (gd_tr1 _) | with_reducible refine GpY.tr ?_ (gd_tr2 (fun _ => gd_rw) _) | with_reducible refine GpY.tr ?_ (gd_tr3 (fun _ => gd_rw) _) | with_reducible refine GpY.tr ?_ (gd_fo1 _) | with_reducible refine GpY.tr ?_ (gd_fo2 _) | with_reducible refine GpY.tr ?_ (gd_fo3 _) | with_reducible refine GpY.tr ?_ (gd_fex _) | with_reducible refine GpY.tr ?_ (pg_var.1) | with_reducible refine GpY.tr ?_ (pg_cas.1) | with_reducible refine GpY.tr ?_ (gd_bd _) | with_reducible refine GpY.tr ?_ (gd_pal _ _ _) | with_reducible refine GpY.tr ?_ (gd_pa3 _) | with_reducible refine GpY.tr ?_ (gd_par _) | with_reducible refine GpY.tr ?_ (gd_me2 _) | with_reducible refine GpY.tr ?_ (gd_me3 _) | with_reducible refine GpY.tr ?_ (gd_pa2 _) | with_reducible refine GpY.tr ?_ (gd_pa1 _) | with_reducible refine GpY.tr ?_ (gd_met _) | exact GpY.rf))⟩
            · dsimp only [Option.toList, List.cons_append, List.nil_append, Nat.beq, gI_sI, gI_sL, gI_sA, gI_sM, gL_sI, gL_sL, gL_sA, gL_sM, aI_sI, aI_sL, aI_sA, aI_sM, aL_sI, aL_sL, aL_sA, aL_sM]
              have hP21 := PaR.s1 hP20 hX21 hS21
              have g6_21 : gI τ21 36 = gI τ20 36 := (hS21.1 36 (by decide)).trans rfl
              have g9_21 : gI τ21 49 = gI τ20 49 := (hS21.1 49 (by decide)).trans rfl
              have hPz21 : PZ N τ21 (accM (me0M (aI σ 6 (gI σ 14).toNatClampNeg).toInt (accM z))) (tnM (accM z)) := PZ.s1 hPz20 hS21 hL21 rfl kK_acc
              have hs21 : (accM (me0M (aI σ 6 (gI σ 14).toNatClampNeg).toInt (accM z))).1 = (accY (metY (aI σ 6 (gI σ 14).toNatClampNeg).toInt (accY z.1))) := congrArg accY hs20
              have r37_21 : aI τ21 37 = aI τ20 37 := (hS21.2 37).trans rfl
              refine ⟨fun h24 => absurd h24 (by decide), fun h24 => ?_⟩
              clear h24
              refine hB _ _ _ _ _ (fun m25 hm25 => ?_)
              dsimp only [ugo, uwp, ust, uct, rfd, Bmethod, Nat.beq, lv_args, rlk, rs1, rs2, rdl, rky, rcd, rno, rsw, Value.category, List.filter, List.take, List.drop, List.reverse, List.reverseAux, List.cons_append, List.nil_append, Option.toList, Int.toNat, Int.reduceToNat, if_pos, if_neg, reduceIte, ↓reduceIte, Nat.reduceAdd, Nat.reduceEqDiff, Nat.reduceBEq, beq_self_eq_true, Bool.not_true, Bool.not_false, Bool.and_true, Bool.and_false, Bool.true_and, Bool.false_and, gI_sI, gI_sL, gI_sA, gI_sM, gL_sI, gL_sL, gL_sA, gL_sM, aI_sI, aI_sL, aI_sA, aI_sM, aL_sI, aL_sL, aL_sA, aL_sM, Bmethod_0, Bmethod_8, Bmethod_19, Bmethod_24, Bmethod_41, Bmethod_43, Bmethod_56, Bmethod_61, Bmethod_70, Bmethod_80, Bmethod_141, Bmethod_150, Bmethod_152, Bmethod_161, Bmethod_165, Bmethod_166, Bmethod_168, Bmethod_173, Bmethod_182, Bmethod_184, Bmethod_197, Bmethod_204, Bmethod_206, Bmethod_215, Bmethod_217, Bmethod_246, Bmethod_257, Bmethod_259, Bmethod_266, Bmethod_273, Bmethod_275, oi_0, oi_1, oi_10, oi_123, oi_3, oi_40, oi_41, oi_44, oi_5, oi_m2]; try dsimp only
              refine ⟨trivial, fun w26 τ26 hq26 => ?_⟩
              obtain ⟨hq26, hL26⟩ := hq26
              have hq26 := hq26 _ (accY (metY (aI σ 6 (gI σ 14).toNatClampNeg).toInt (accY z.1))) 21 0 ⟨(PaR.x hP21), by decide⟩
              rcases hq26 with ⟨rfl, hF26⟩ | ⟨rfl, hc26, hX26, hz26, hS26⟩
              · dsimp only [Option.toList, List.cons_append, List.nil_append, Nat.beq, gI_sI, gI_sL, gI_sA, gI_sM, gL_sI, gL_sL, gL_sA, gL_sM, aI_sI, aI_sL, aI_sA, aI_sM, aL_sI, aL_sL, aL_sA, aL_sM]
                refine ⟨fun h27 => absurd h27 (by decide), fun h27 => ?_⟩
                clear h27
                refine hB _ _ _ _ _ (fun m28 hm28 => ?_)
                dsimp only [ugo, uwp, ust, uct, rfd, Bmethod, Nat.beq, lv_args, rlk, rs1, rs2, rdl, rky, rcd, rno, rsw, Value.category, List.filter, List.take, List.drop, List.reverse, List.reverseAux, List.cons_append, List.nil_append, Option.toList, Int.toNat, Int.reduceToNat, if_pos, if_neg, reduceIte, ↓reduceIte, Nat.reduceAdd, Nat.reduceEqDiff, Nat.reduceBEq, beq_self_eq_true, Bool.not_true, Bool.not_false, Bool.and_true, Bool.and_false, Bool.true_and, Bool.false_and, gI_sI, gI_sL, gI_sA, gI_sM, gL_sI, gL_sL, gL_sA, gL_sM, aI_sI, aI_sL, aI_sA, aI_sM, aL_sI, aL_sL, aL_sA, aL_sM, Bmethod_0, Bmethod_8, Bmethod_19, Bmethod_24, Bmethod_41, Bmethod_43, Bmethod_56, Bmethod_61, Bmethod_70, Bmethod_80, Bmethod_141, Bmethod_150, Bmethod_152, Bmethod_161, Bmethod_165, Bmethod_166, Bmethod_168, Bmethod_173, Bmethod_182, Bmethod_184, Bmethod_197, Bmethod_204, Bmethod_206, Bmethod_215, Bmethod_217, Bmethod_246, Bmethod_257, Bmethod_259, Bmethod_266, Bmethod_273, Bmethod_275, oi_0, oi_1, oi_10, oi_123, oi_3, oi_40, oi_41, oi_44, oi_5, oi_m2]; try dsimp only
                unfold Qv_methodZ
                try dsimp only
                rw [lf_me, hMt]
                exact Or.inl ⟨rfl, FlR.g hF26 (by repeat (first | with_reducible exact GpY.rf | with_reducible refine GpY.tr ?_ (gd_fo _) | with_reducible refine GpY.tr ?_ (gd_ef _) | with_reducible refine GpY.tr ?_ (gd_cf _) | with_reducible refine GpY.tr ?_ (gd_wt _) | with_reducible refine GpY.tr ?_ (gd_xp _) | with_reducible refine GpY.tr ?_ (gd_acc _) | with_reducible refine GpY.tr ?_ (gd_rai _) | with_reducible refine GpY.tr ?_ (gd_e _) | with_reducible refine GpY.tr ?_ (gd_o _) | with_reducible refine GpY.tr ?_ (gd_c _) | with_reducible refine GpY.tr ?_ (gd_op _) | with_reducible refine GpY.tr ?_ (gd_clp gd_e _ _) | with_reducible refine GpY.tr ?_ (gd_tl _) | with_reducible refine GpY.tr ?_ (gd_sf _ _ _) | with_reducible refine GpY.tr ?_ (gd_cl _) | with_reducible refine GpY.tr ?_ (gd_pc _) | with_reducible refine GpY.tr ?_ (gd_st _) | with_reducible refine GpY.tr ?_ (gd_rw _) | with_reducible refine GpY.tr ?_ (gd_typ _) | with_reducible refine GpY.tr ?_ (gd_dcl _) | with_reducible refine GpY.tr ?_ (gd_va2 _) | with_reducible refine GpY.tr ?_ (gd_cnd _) | with_reducible refine GpY.tr ?_ (gd_tr1 _) | with_reducible refine GpY.tr ?_ (gd_tr2 (fun _ => gd_rw) _) | with_reducible refine GpY.tr ?_ (gd_tr3 (fun _ => gd_rw) _) | with_reducible refine GpY.tr ?_ (gd_fo1 _) | with_reducible refine GpY.tr ?_ (gd_fo2 _) | with_reducible refine GpY.tr ?_ (gd_fo3 _) | with_reducible refine GpY.tr ?_ (gd_fex _) | with_reducible refine GpY.tr ?_ (pg_var.1) | with_reducible refine GpY.tr ?_ (pg_cas.1) | with_reducible refine GpY.tr ?_ (gd_bd _) | with_reducible refine GpY.tr ?_ (gd_pal _ _ _) | with_reducible refine GpY.tr ?_ (gd_pa3 _) | with_reducible refine GpY.tr ?_ (gd_par _) | with_reducible refine GpY.tr ?_ (gd_me2 _) | with_reducible refine GpY.tr ?_ (gd_me3 _) | with_reducible refine GpY.tr ?_ (gd_pa2 _) | with_reducible refine GpY.tr ?_ (gd_pa1 _) | with_reducible refine GpY.tr ?_ (gd_met _) | exact GpY.rf))⟩
              · dsimp only [Option.toList, List.cons_append, List.nil_append, Nat.beq, gI_sI, gI_sL, gI_sA, gI_sM, gL_sI, gL_sL, gL_sA, gL_sM, aI_sI, aI_sL, aI_sA, aI_sM, aL_sI, aL_sL, aL_sA, aL_sM]
                have hP26 := PaR.s1 hP21 hX26 hS26
                have g6_26 : gI τ26 36 = gI τ20 36 := (hS26.1 36 (by decide)).trans g6_21
                have g9_26 : gI τ26 49 = gI τ20 49 := (hS26.1 49 (by decide)).trans g9_21
                have hPz26 : PZ N τ26 (xpM 0 (accM (me0M (aI σ 6 (gI σ 14).toNatClampNeg).toInt (accM z)))) (tnM (accM z)) := PZ.s1 hPz21 hS26 hL26 rfl kK_xp
                have hs26 : (xpM 0 (accM (me0M (aI σ 6 (gI σ 14).toNatClampNeg).toInt (accM z)))).1 = (accY (accY (metY (aI σ 6 (gI σ 14).toNatClampNeg).toInt (accY z.1)))) := (congrArg (xpY 0) hs21).trans (xp_y hc26)
                have r37_26 : aI τ26 37 = aI τ20 37 := (hS26.2 37).trans r37_21
                refine ⟨fun h29 => ?_, fun h29 => absurd h29 (by decide)⟩
                clear h29
                refine hB _ _ _ _ _ (fun m30 hm30 => ?_)
                dsimp only [ugo, uwp, ust, uct, rfd, Bmethod, Nat.beq, lv_args, rlk, rs1, rs2, rdl, rky, rcd, rno, rsw, Value.category, List.filter, List.take, List.drop, List.reverse, List.reverseAux, List.cons_append, List.nil_append, Option.toList, Int.toNat, Int.reduceToNat, if_pos, if_neg, reduceIte, ↓reduceIte, Nat.reduceAdd, Nat.reduceEqDiff, Nat.reduceBEq, beq_self_eq_true, Bool.not_true, Bool.not_false, Bool.and_true, Bool.and_false, Bool.true_and, Bool.false_and, gI_sI, gI_sL, gI_sA, gI_sM, gL_sI, gL_sL, gL_sA, gL_sM, aI_sI, aI_sL, aI_sA, aI_sM, aL_sI, aL_sL, aL_sA, aL_sM, Bmethod_0, Bmethod_8, Bmethod_19, Bmethod_24, Bmethod_41, Bmethod_43, Bmethod_56, Bmethod_61, Bmethod_70, Bmethod_80, Bmethod_141, Bmethod_150, Bmethod_152, Bmethod_161, Bmethod_165, Bmethod_166, Bmethod_168, Bmethod_173, Bmethod_182, Bmethod_184, Bmethod_197, Bmethod_204, Bmethod_206, Bmethod_215, Bmethod_217, Bmethod_246, Bmethod_257, Bmethod_259, Bmethod_266, Bmethod_273, Bmethod_275, oi_0, oi_1, oi_10, oi_123, oi_3, oi_40, oi_41, oi_44, oi_5, oi_m2]; try dsimp only
                refine ⟨trivial, fun w31 τ31 hq31 => ?_⟩
                obtain ⟨hq31, hL31⟩ := hq31
                obtain ⟨rfl, b31, rfl, hb31⟩ := hq31 trivial
                have he31 := (XrR.s (PaR.x hP26)).sg (x := 41) (d := 1) (by decide)
                rcases hb31 with ⟨rfl, hk31⟩ | ⟨rfl, hk31⟩
                · dsimp only [Option.toList, List.cons_append, List.nil_append, Nat.beq, gI_sI, gI_sL, gI_sA, gI_sM, gL_sI, gL_sL, gL_sA, gL_sM, aI_sI, aI_sL, aI_sA, aI_sM, aL_sI, aL_sL, aL_sA, aL_sM]
                  have hc31 : codY (accY (accY (metY (aI σ 6 (gI σ 14).toNatClampNeg).toInt (accY z.1)))) = 1 := he31.mp hk31
                  refine ⟨fun h32 => ?_, fun h32 => absurd h32 (by decide)⟩
                  clear h32
                  refine hB _ _ _ _ _ (fun m33 hm33 => ?_)
                  dsimp only [ugo, uwp, ust, uct, rfd, Bmethod, Nat.beq, lv_args, rlk, rs1, rs2, rdl, rky, rcd, rno, rsw, Value.category, List.filter, List.take, List.drop, List.reverse, List.reverseAux, List.cons_append, List.nil_append, Option.toList, Int.toNat, Int.reduceToNat, if_pos, if_neg, reduceIte, ↓reduceIte, Nat.reduceAdd, Nat.reduceEqDiff, Nat.reduceBEq, beq_self_eq_true, Bool.not_true, Bool.not_false, Bool.and_true, Bool.and_false, Bool.true_and, Bool.false_and, gI_sI, gI_sL, gI_sA, gI_sM, gL_sI, gL_sL, gL_sA, gL_sM, aI_sI, aI_sL, aI_sA, aI_sM, aL_sI, aL_sL, aL_sA, aL_sM, Bmethod_0, Bmethod_8, Bmethod_19, Bmethod_24, Bmethod_41, Bmethod_43, Bmethod_56, Bmethod_61, Bmethod_70, Bmethod_80, Bmethod_141, Bmethod_150, Bmethod_152, Bmethod_161, Bmethod_165, Bmethod_166, Bmethod_168, Bmethod_173, Bmethod_182, Bmethod_184, Bmethod_197, Bmethod_204, Bmethod_206, Bmethod_215, Bmethod_217, Bmethod_246, Bmethod_257, Bmethod_259, Bmethod_266, Bmethod_273, Bmethod_275, oi_0, oi_1, oi_10, oi_123, oi_3, oi_40, oi_41, oi_44, oi_5, oi_m2]; try dsimp only
                  refine hB _ _ _ _ _ (fun m34 hm34 => ?_)
                  dsimp only [ugo, uwp, ust, uct, rfd, Bmethod, Nat.beq, lv_args, rlk, rs1, rs2, rdl, rky, rcd, rno, rsw, Value.category, List.filter, List.take, List.drop, List.reverse, List.reverseAux, List.cons_append, List.nil_append, Option.toList, Int.toNat, Int.reduceToNat, if_pos, if_neg, reduceIte, ↓reduceIte, Nat.reduceAdd, Nat.reduceEqDiff, Nat.reduceBEq, beq_self_eq_true, Bool.not_true, Bool.not_false, Bool.and_true, Bool.and_false, Bool.true_and, Bool.false_and, gI_sI, gI_sL, gI_sA, gI_sM, gL_sI, gL_sL, gL_sA, gL_sM, aI_sI, aI_sL, aI_sA, aI_sM, aL_sI, aL_sL, aL_sA, aL_sM, Bmethod_0, Bmethod_8, Bmethod_19, Bmethod_24, Bmethod_41, Bmethod_43, Bmethod_56, Bmethod_61, Bmethod_70, Bmethod_80, Bmethod_141, Bmethod_150, Bmethod_152, Bmethod_161, Bmethod_165, Bmethod_166, Bmethod_168, Bmethod_173, Bmethod_182, Bmethod_184, Bmethod_197, Bmethod_204, Bmethod_206, Bmethod_215, Bmethod_217, Bmethod_246, Bmethod_257, Bmethod_259, Bmethod_266, Bmethod_273, Bmethod_275, oi_0, oi_1, oi_10, oi_123, oi_3, oi_40, oi_41, oi_44, oi_5, oi_m2]; try dsimp only
                  exact hW _ 168 [(0, .ref 1000), (1, .int (aI σ 6 (gI σ 14).toNatClampNeg)), (2, .int (gI τ6 36)), (3, .int (gI τ6 49)), (4, .int 0)] _ _ _ (by simp [rdl, rky]) (t168 _ _ ((zMs (accY z.1)).length : Int) (zAt (accY z.1)) (tnM (accM z)) (xpM 0 (accM (me0M (aI σ 6 (gI σ 14).toNatClampNeg).toInt (accM z)))) 0 _ _ _ 0 (by rw [show (xpM 0 (accM (me0M (aI σ 6 (gI σ 14).toNatClampNeg).toInt (accM z)))).1 = (accY (accY (metY (aI σ 6 (gI σ 14).toNatClampNeg).toInt (accY z.1)))) from hs26]; exact hP26) (by rw [g6_26]; exact ((hT20.1 36 (by decide)).trans rfl).symm) hPz26 hkk ⟨by rw [g6_26, g36t, toI_n hMm.2.2.2.2.1.1, hMm.2.2.2.1, mlR_l], by rw [g6_26, r37_26, g36t, g37t, upd_eq]; exact hMm.1.2.1.1.symm⟩ (by rw [show (xpM 0 (accM (me0M (aI σ 6 (gI σ 14).toNatClampNeg).toInt (accM z)))).1 = (accY (accY (metY (aI σ 6 (gI σ 14).toNatClampNeg).toInt (accY z.1)))) from hs26]; first | exact GpY.a1 (((gd_met (accY z.1)).tr (gd_acc _)).tr (gd_acc _)) hMm.1.a5.2 (by have q := (acc_pg hMm.1.1.1).2.1; have q2 := hM.1.a5.1; omega) | exact GpY.a1 (((gd_met (accY z.1)).tr (gd_acc _)).tr (gd_xp _)) hMm.1.a5.2 (by have q := (acc_pg hMm.1.1.1).2.1; have q2 := hM.1.a5.1; omega)) (by rw [hMe0]; exact Nat.succ_pos _) (Or.inr ⟨rfl, by rw [hMe0, pa3_yM (by rw [show (xpM 0 (accM (me0M (aI σ 6 (gI σ 14).toNatClampNeg).toInt (accM z)))).1 = (accY (accY (metY (aI σ 6 (gI σ 14).toNatClampNeg).toInt (accY z.1)))) from hs26]; assumption)]⟩))
                · dsimp only [Option.toList, List.cons_append, List.nil_append, Nat.beq, gI_sI, gI_sL, gI_sA, gI_sM, gL_sI, gL_sL, gL_sA, gL_sM, aI_sI, aI_sL, aI_sA, aI_sM, aL_sI, aL_sL, aL_sA, aL_sM]
                  have hc31 : ¬ codY (accY (accY (metY (aI σ 6 (gI σ 14).toNatClampNeg).toInt (accY z.1)))) = 1 := fun q => hk31 (he31.mpr q)
                  refine ⟨fun h35 => absurd h35 (by decide), fun h35 => ?_⟩
                  clear h35
                  refine hB _ _ _ _ _ (fun m36 hm36 => ?_)
                  dsimp only [ugo, uwp, ust, uct, rfd, Bmethod, Nat.beq, lv_args, rlk, rs1, rs2, rdl, rky, rcd, rno, rsw, Value.category, List.filter, List.take, List.drop, List.reverse, List.reverseAux, List.cons_append, List.nil_append, Option.toList, Int.toNat, Int.reduceToNat, if_pos, if_neg, reduceIte, ↓reduceIte, Nat.reduceAdd, Nat.reduceEqDiff, Nat.reduceBEq, beq_self_eq_true, Bool.not_true, Bool.not_false, Bool.and_true, Bool.and_false, Bool.true_and, Bool.false_and, gI_sI, gI_sL, gI_sA, gI_sM, gL_sI, gL_sL, gL_sA, gL_sM, aI_sI, aI_sL, aI_sA, aI_sM, aL_sI, aL_sL, aL_sA, aL_sM, Bmethod_0, Bmethod_8, Bmethod_19, Bmethod_24, Bmethod_41, Bmethod_43, Bmethod_56, Bmethod_61, Bmethod_70, Bmethod_80, Bmethod_141, Bmethod_150, Bmethod_152, Bmethod_161, Bmethod_165, Bmethod_166, Bmethod_168, Bmethod_173, Bmethod_182, Bmethod_184, Bmethod_197, Bmethod_204, Bmethod_206, Bmethod_215, Bmethod_217, Bmethod_246, Bmethod_257, Bmethod_259, Bmethod_266, Bmethod_273, Bmethod_275, oi_0, oi_1, oi_10, oi_123, oi_3, oi_40, oi_41, oi_44, oi_5, oi_m2]; try dsimp only
                  refine hB _ _ _ _ _ (fun m37 hm37 => ?_)
                  dsimp only [ugo, uwp, ust, uct, rfd, Bmethod, Nat.beq, lv_args, rlk, rs1, rs2, rdl, rky, rcd, rno, rsw, Value.category, List.filter, List.take, List.drop, List.reverse, List.reverseAux, List.cons_append, List.nil_append, Option.toList, Int.toNat, Int.reduceToNat, if_pos, if_neg, reduceIte, ↓reduceIte, Nat.reduceAdd, Nat.reduceEqDiff, Nat.reduceBEq, beq_self_eq_true, Bool.not_true, Bool.not_false, Bool.and_true, Bool.and_false, Bool.true_and, Bool.false_and, gI_sI, gI_sL, gI_sA, gI_sM, gL_sI, gL_sL, gL_sA, gL_sM, aI_sI, aI_sL, aI_sA, aI_sM, aL_sI, aL_sL, aL_sA, aL_sM, Bmethod_0, Bmethod_8, Bmethod_19, Bmethod_24, Bmethod_41, Bmethod_43, Bmethod_56, Bmethod_61, Bmethod_70, Bmethod_80, Bmethod_141, Bmethod_150, Bmethod_152, Bmethod_161, Bmethod_165, Bmethod_166, Bmethod_168, Bmethod_173, Bmethod_182, Bmethod_184, Bmethod_197, Bmethod_204, Bmethod_206, Bmethod_215, Bmethod_217, Bmethod_246, Bmethod_257, Bmethod_259, Bmethod_266, Bmethod_273, Bmethod_275, oi_0, oi_1, oi_10, oi_123, oi_3, oi_40, oi_41, oi_44, oi_5, oi_m2]; try dsimp only
                  exact hW _ 168 [(0, .ref 1000), (1, .int (aI σ 6 (gI σ 14).toNatClampNeg)), (2, .int (gI τ6 36)), (3, .int (gI τ6 49)), (4, .int 1)] _ _ _ (by simp [rdl, rky]) (t168 _ _ ((zMs (accY z.1)).length : Int) (zAt (accY z.1)) (tnM (accM z)) (xpM 0 (accM (me0M (aI σ 6 (gI σ 14).toNatClampNeg).toInt (accM z)))) 0 _ _ _ 1 (by rw [show (xpM 0 (accM (me0M (aI σ 6 (gI σ 14).toNatClampNeg).toInt (accM z)))).1 = (accY (accY (metY (aI σ 6 (gI σ 14).toNatClampNeg).toInt (accY z.1)))) from hs26]; exact hP26) (by rw [g6_26]; exact ((hT20.1 36 (by decide)).trans rfl).symm) hPz26 hkk ⟨by rw [g6_26, g36t, toI_n hMm.2.2.2.2.1.1, hMm.2.2.2.1, mlR_l], by rw [g6_26, r37_26, g36t, g37t, upd_eq]; exact hMm.1.2.1.1.symm⟩ (by rw [show (xpM 0 (accM (me0M (aI σ 6 (gI σ 14).toNatClampNeg).toInt (accM z)))).1 = (accY (accY (metY (aI σ 6 (gI σ 14).toNatClampNeg).toInt (accY z.1)))) from hs26]; first | exact GpY.a1 (((gd_met (accY z.1)).tr (gd_acc _)).tr (gd_acc _)) hMm.1.a5.2 (by have q := (acc_pg hMm.1.1.1).2.1; have q2 := hM.1.a5.1; omega) | exact GpY.a1 (((gd_met (accY z.1)).tr (gd_acc _)).tr (gd_xp _)) hMm.1.a5.2 (by have q := (acc_pg hMm.1.1.1).2.1; have q2 := hM.1.a5.1; omega)) (by rw [hMe0]; exact Nat.succ_pos _) (Or.inl ⟨rfl, by rw [hMe0, pa3_nM (by rw [show (xpM 0 (accM (me0M (aI σ 6 (gI σ 14).toNatClampNeg).toInt (accM z)))).1 = (accY (accY (metY (aI σ 6 (gI σ 14).toNatClampNeg).toInt (accY z.1)))) from hs26]; assumption)]⟩))
          · refine hB _ _ _ _ _ (fun m38 hm38 => ?_)
            dsimp only [ugo, uwp, ust, uct, rfd, Bmethod, Nat.beq, lv_args, rlk, rs1, rs2, rdl, rky, rcd, rno, rsw, Value.category, List.filter, List.take, List.drop, List.reverse, List.reverseAux, List.cons_append, List.nil_append, Option.toList, Int.toNat, Int.reduceToNat, if_pos, if_neg, reduceIte, ↓reduceIte, Nat.reduceAdd, Nat.reduceEqDiff, Nat.reduceBEq, beq_self_eq_true, Bool.not_true, Bool.not_false, Bool.and_true, Bool.and_false, Bool.true_and, Bool.false_and, gI_sI, gI_sL, gI_sA, gI_sM, gL_sI, gL_sL, gL_sA, gL_sM, aI_sI, aI_sL, aI_sA, aI_sM, aL_sI, aL_sL, aL_sA, aL_sM, Bmethod_0, Bmethod_8, Bmethod_19, Bmethod_24, Bmethod_41, Bmethod_43, Bmethod_56, Bmethod_61, Bmethod_70, Bmethod_80, Bmethod_141, Bmethod_150, Bmethod_152, Bmethod_161, Bmethod_165, Bmethod_166, Bmethod_168, Bmethod_173, Bmethod_182, Bmethod_184, Bmethod_197, Bmethod_204, Bmethod_206, Bmethod_215, Bmethod_217, Bmethod_246, Bmethod_257, Bmethod_259, Bmethod_266, Bmethod_273, Bmethod_275, oi_0, oi_1, oi_10, oi_123, oi_3, oi_40, oi_41, oi_44, oi_5, oi_m2]; try dsimp only
            refine ⟨trivial, fun w39 τ39 hq39 => ?_⟩
            obtain ⟨hq39, hL39⟩ := hq39
            obtain ⟨rfl, hf39⟩ := hq39 trivial
            dsimp only [Option.toList, List.cons_append, List.nil_append, Nat.beq, gI_sI, gI_sL, gI_sA, gI_sM, gL_sI, gL_sL, gL_sA, gL_sM, aI_sI, aI_sL, aI_sA, aI_sM, aL_sI, aL_sL, aL_sA, aL_sM]
            unfold Qv_methodZ
            try dsimp only
            have e := hf39 hM6.1.1.2
            subst e
            refine Or.inl ⟨rfl, FlR.g (S := raiY 3 (accY z.1)) ?_ ?_⟩
            · exact FlR.rai hM6.1 (by decide) (by show (3 : Int32).toInt = _; rw [if_neg (by omega)]; rfl) rfl
            · rw [lf_me]
              unfold mthY
              rw [me1_y hcd, me2_3 hcn (by rw [hM6.2.2.2.1, mlR_l, show gI τ6 36 = 10 by lia]; decide)]
              exact gd_me3 _
        · refine hB _ _ _ _ _ (fun m40 hm40 => ?_)
          dsimp only [ugo, uwp, ust, uct, rfd, Bmethod, Nat.beq, lv_args, rlk, rs1, rs2, rdl, rky, rcd, rno, rsw, Value.category, List.filter, List.take, List.drop, List.reverse, List.reverseAux, List.cons_append, List.nil_append, Option.toList, Int.toNat, Int.reduceToNat, if_pos, if_neg, reduceIte, ↓reduceIte, Nat.reduceAdd, Nat.reduceEqDiff, Nat.reduceBEq, beq_self_eq_true, Bool.not_true, Bool.not_false, Bool.and_true, Bool.and_false, Bool.true_and, Bool.false_and, gI_sI, gI_sL, gI_sA, gI_sM, gL_sI, gL_sL, gL_sA, gL_sM, aI_sI, aI_sL, aI_sA, aI_sM, aL_sI, aL_sL, aL_sA, aL_sM, Bmethod_0, Bmethod_8, Bmethod_19, Bmethod_24, Bmethod_41, Bmethod_43, Bmethod_56, Bmethod_61, Bmethod_70, Bmethod_80, Bmethod_141, Bmethod_150, Bmethod_152, Bmethod_161, Bmethod_165, Bmethod_166, Bmethod_168, Bmethod_173, Bmethod_182, Bmethod_184, Bmethod_197, Bmethod_204, Bmethod_206, Bmethod_215, Bmethod_217, Bmethod_246, Bmethod_257, Bmethod_259, Bmethod_266, Bmethod_273, Bmethod_275, oi_0, oi_1, oi_10, oi_123, oi_3, oi_40, oi_41, oi_44, oi_5, oi_m2]; try dsimp only
          have hnn : ¬ codY (accY z.1) = 80 := fun q => h12 (hM6.1.ki.2.2.1.mpr q)
          refine ⟨trivial, fun w41 τ41 hq41 => ?_⟩
          obtain ⟨hq41, hL41⟩ := hq41
          have hq41 := hq41 (accY z.1) hM6.1
          obtain ⟨rfl, hF41⟩ := hq41
          dsimp only [Option.toList, List.cons_append, List.nil_append, Nat.beq, gI_sI, gI_sL, gI_sA, gI_sM, gL_sI, gL_sL, gL_sA, gL_sM, aI_sI, aI_sL, aI_sA, aI_sM, aL_sI, aL_sL, aL_sA, aL_sM]
          unfold Qv_methodZ
          try dsimp only
          rw [lf_me]
          unfold mthY
          refine Or.inl ⟨rfl, FlR.g hF41 ?_⟩
          rw [me1_y hcd, me2_n hnn]
          exact (by repeat (first | with_reducible exact GpY.rf | with_reducible refine GpY.tr ?_ (gd_fo _) | with_reducible refine GpY.tr ?_ (gd_ef _) | with_reducible refine GpY.tr ?_ (gd_cf _) | with_reducible refine GpY.tr ?_ (gd_wt _) | with_reducible refine GpY.tr ?_ (gd_xp _) | with_reducible refine GpY.tr ?_ (gd_acc _) | with_reducible refine GpY.tr ?_ (gd_rai _) | with_reducible refine GpY.tr ?_ (gd_e _) | with_reducible refine GpY.tr ?_ (gd_o _) | with_reducible refine GpY.tr ?_ (gd_c _) | with_reducible refine GpY.tr ?_ (gd_op _) | with_reducible refine GpY.tr ?_ (gd_clp gd_e _ _) | with_reducible refine GpY.tr ?_ (gd_tl _) | with_reducible refine GpY.tr ?_ (gd_sf _ _ _) | with_reducible refine GpY.tr ?_ (gd_cl _) | with_reducible refine GpY.tr ?_ (gd_pc _) | with_reducible refine GpY.tr ?_ (gd_st _) | with_reducible refine GpY.tr ?_ (gd_rw _) | with_reducible refine GpY.tr ?_ (gd_typ _) | with_reducible refine GpY.tr ?_ (gd_dcl _) | with_reducible refine GpY.tr ?_ (gd_va2 _) | with_reducible refine GpY.tr ?_ (gd_cnd _) | with_reducible refine GpY.tr ?_ (gd_tr1 _) | with_reducible refine GpY.tr ?_ (gd_tr2 (fun _ => gd_rw) _) | with_reducible refine GpY.tr ?_ (gd_tr3 (fun _ => gd_rw) _) | with_reducible refine GpY.tr ?_ (gd_fo1 _) | with_reducible refine GpY.tr ?_ (gd_fo2 _) | with_reducible refine GpY.tr ?_ (gd_fo3 _) | with_reducible refine GpY.tr ?_ (gd_fex _) | with_reducible refine GpY.tr ?_ (pg_var.1) | with_reducible refine GpY.tr ?_ (pg_cas.1) | with_reducible refine GpY.tr ?_ (gd_bd _) | with_reducible refine GpY.tr ?_ (gd_pal _ _ _) | with_reducible refine GpY.tr ?_ (gd_pa3 _) | with_reducible refine GpY.tr ?_ (gd_par _) | with_reducible refine GpY.tr ?_ (gd_me2 _) | with_reducible refine GpY.tr ?_ (gd_me3 _) | with_reducible refine GpY.tr ?_ (gd_pa2 _) | with_reducible refine GpY.tr ?_ (gd_pa1 _) | with_reducible refine GpY.tr ?_ (gd_met _) | exact GpY.rf))
    · dsimp only [Option.toList, List.cons_append, List.nil_append, Nat.beq, gI_sI, gI_sL, gI_sA, gI_sM, gL_sI, gL_sL, gL_sA, gL_sM, aI_sI, aI_sL, aI_sA, aI_sM, aL_sI, aL_sL, aL_sA, aL_sM]
      have hc2 : ¬ codY z.1 = 55 := fun q => hk2 (he2.mpr q)
      refine ⟨fun h42 => absurd h42 (by decide), fun h42 => ?_⟩
      clear h42
      refine hB _ _ _ _ _ (fun m43 hm43 => ?_)
      dsimp only [ugo, uwp, ust, uct, rfd, Bmethod, Nat.beq, lv_args, rlk, rs1, rs2, rdl, rky, rcd, rno, rsw, Value.category, List.filter, List.take, List.drop, List.reverse, List.reverseAux, List.cons_append, List.nil_append, Option.toList, Int.toNat, Int.reduceToNat, if_pos, if_neg, reduceIte, ↓reduceIte, Nat.reduceAdd, Nat.reduceEqDiff, Nat.reduceBEq, beq_self_eq_true, Bool.not_true, Bool.not_false, Bool.and_true, Bool.and_false, Bool.true_and, Bool.false_and, gI_sI, gI_sL, gI_sA, gI_sM, gL_sI, gL_sL, gL_sA, gL_sM, aI_sI, aI_sL, aI_sA, aI_sM, aL_sI, aL_sL, aL_sA, aL_sM, Bmethod_0, Bmethod_8, Bmethod_19, Bmethod_24, Bmethod_41, Bmethod_43, Bmethod_56, Bmethod_61, Bmethod_70, Bmethod_80, Bmethod_141, Bmethod_150, Bmethod_152, Bmethod_161, Bmethod_165, Bmethod_166, Bmethod_168, Bmethod_173, Bmethod_182, Bmethod_184, Bmethod_197, Bmethod_204, Bmethod_206, Bmethod_215, Bmethod_217, Bmethod_246, Bmethod_257, Bmethod_259, Bmethod_266, Bmethod_273, Bmethod_275, oi_0, oi_1, oi_10, oi_123, oi_3, oi_40, oi_41, oi_44, oi_5, oi_m2]; try dsimp only
      refine ⟨trivial, fun w44 τ44 hq44 => ?_⟩
      obtain ⟨hq44, hL44⟩ := hq44
      obtain ⟨rfl, b44, rfl, hb44⟩ := hq44 trivial
      have he44 := (XrR.s (MhR.x hM)).ty
      rcases hb44 with ⟨rfl, hk44⟩ | ⟨rfl, hk44⟩
      · dsimp only [Option.toList, List.cons_append, List.nil_append, Nat.beq, gI_sI, gI_sL, gI_sA, gI_sM, gL_sI, gL_sL, gL_sA, gL_sM, aI_sI, aI_sL, aI_sA, aI_sM, aL_sI, aL_sL, aL_sA, aL_sM]
        have hc44 : 50 ≤ codY z.1 ∧ codY z.1 ≤ 54 := he44.mp hk44
        refine ⟨fun h45 => ?_, fun h45 => absurd h45 (by decide)⟩
        clear h45
        refine hB _ _ _ _ _ (fun m46 hm46 => ?_)
        dsimp only [ugo, uwp, ust, uct, rfd, Bmethod, Nat.beq, lv_args, rlk, rs1, rs2, rdl, rky, rcd, rno, rsw, Value.category, List.filter, List.take, List.drop, List.reverse, List.reverseAux, List.cons_append, List.nil_append, Option.toList, Int.toNat, Int.reduceToNat, if_pos, if_neg, reduceIte, ↓reduceIte, Nat.reduceAdd, Nat.reduceEqDiff, Nat.reduceBEq, beq_self_eq_true, Bool.not_true, Bool.not_false, Bool.and_true, Bool.and_false, Bool.true_and, Bool.false_and, gI_sI, gI_sL, gI_sA, gI_sM, gL_sI, gL_sL, gL_sA, gL_sM, aI_sI, aI_sL, aI_sA, aI_sM, aL_sI, aL_sL, aL_sA, aL_sM, Bmethod_0, Bmethod_8, Bmethod_19, Bmethod_24, Bmethod_41, Bmethod_43, Bmethod_56, Bmethod_61, Bmethod_70, Bmethod_80, Bmethod_141, Bmethod_150, Bmethod_152, Bmethod_161, Bmethod_165, Bmethod_166, Bmethod_168, Bmethod_173, Bmethod_182, Bmethod_184, Bmethod_197, Bmethod_204, Bmethod_206, Bmethod_215, Bmethod_217, Bmethod_246, Bmethod_257, Bmethod_259, Bmethod_266, Bmethod_273, Bmethod_275, oi_0, oi_1, oi_10, oi_123, oi_3, oi_40, oi_41, oi_44, oi_5, oi_m2]; try dsimp only
        have hcd : (50 ≤ codY z.1 ∧ codY z.1 ≤ 54) ∨ codY z.1 = 55 := by omega
        intro p47
        refine ⟨trivial, fun w48 τ48 hq48 => ?_⟩
        obtain ⟨hq48, hL48⟩ := hq48
        have hq48 := hq48 _ z.1 21 ⟨MhR.x hM, by omega, by omega⟩
        rcases hq48 with ⟨rfl, hF48⟩ | ⟨rfl, hX48, hz48, hS48⟩
        · dsimp only [Option.toList, List.cons_append, List.nil_append, Nat.beq, gI_sI, gI_sL, gI_sA, gI_sM, gL_sI, gL_sL, gL_sA, gL_sM, aI_sI, aI_sL, aI_sA, aI_sM, aL_sI, aL_sL, aL_sA, aL_sM]
          refine ⟨fun h49 => absurd h49 (by decide), fun h49 => ?_⟩
          clear h49
          refine hB _ _ _ _ _ (fun m50 hm50 => ?_)
          dsimp only [ugo, uwp, ust, uct, rfd, Bmethod, Nat.beq, lv_args, rlk, rs1, rs2, rdl, rky, rcd, rno, rsw, Value.category, List.filter, List.take, List.drop, List.reverse, List.reverseAux, List.cons_append, List.nil_append, Option.toList, Int.toNat, Int.reduceToNat, if_pos, if_neg, reduceIte, ↓reduceIte, Nat.reduceAdd, Nat.reduceEqDiff, Nat.reduceBEq, beq_self_eq_true, Bool.not_true, Bool.not_false, Bool.and_true, Bool.and_false, Bool.true_and, Bool.false_and, gI_sI, gI_sL, gI_sA, gI_sM, gL_sI, gL_sL, gL_sA, gL_sM, aI_sI, aI_sL, aI_sA, aI_sM, aL_sI, aL_sL, aL_sA, aL_sM, Bmethod_0, Bmethod_8, Bmethod_19, Bmethod_24, Bmethod_41, Bmethod_43, Bmethod_56, Bmethod_61, Bmethod_70, Bmethod_80, Bmethod_141, Bmethod_150, Bmethod_152, Bmethod_161, Bmethod_165, Bmethod_166, Bmethod_168, Bmethod_173, Bmethod_182, Bmethod_184, Bmethod_197, Bmethod_204, Bmethod_206, Bmethod_215, Bmethod_217, Bmethod_246, Bmethod_257, Bmethod_259, Bmethod_266, Bmethod_273, Bmethod_275, oi_0, oi_1, oi_10, oi_123, oi_3, oi_40, oi_41, oi_44, oi_5, oi_m2]; try dsimp only
          unfold Qv_methodZ
          try dsimp only
          rw [lf_me]
          unfold mthY
          refine Or.inl ⟨rfl, FlR.g hF48 ?_⟩
          rw [me1_y hcd]
          exact (by repeat (first | with_reducible exact GpY.rf | with_reducible refine GpY.tr ?_ (gd_fo _) | with_reducible refine GpY.tr ?_ (gd_ef _) | with_reducible refine GpY.tr ?_ (gd_cf _) | with_reducible refine GpY.tr ?_ (gd_wt _) | with_reducible refine GpY.tr ?_ (gd_xp _) | with_reducible refine GpY.tr ?_ (gd_acc _) | with_reducible refine GpY.tr ?_ (gd_rai _) | with_reducible refine GpY.tr ?_ (gd_e _) | with_reducible refine GpY.tr ?_ (gd_o _) | with_reducible refine GpY.tr ?_ (gd_c _) | with_reducible refine GpY.tr ?_ (gd_op _) | with_reducible refine GpY.tr ?_ (gd_clp gd_e _ _) | with_reducible refine GpY.tr ?_ (gd_tl _) | with_reducible refine GpY.tr ?_ (gd_sf _ _ _) | with_reducible refine GpY.tr ?_ (gd_cl _) | with_reducible refine GpY.tr ?_ (gd_pc _) | with_reducible refine GpY.tr ?_ (gd_st _) | with_reducible refine GpY.tr ?_ (gd_rw _) | with_reducible refine GpY.tr ?_ (gd_typ _) | with_reducible refine GpY.tr ?_ (gd_dcl _) | with_reducible refine GpY.tr ?_ (gd_va2 _) | with_reducible refine GpY.tr ?_ (gd_cnd _) | with_reducible refine GpY.tr ?_ (gd_tr1 _) | with_reducible refine GpY.tr ?_ (gd_tr2 (fun _ => gd_rw) _) | with_reducible refine GpY.tr ?_ (gd_tr3 (fun _ => gd_rw) _) | with_reducible refine GpY.tr ?_ (gd_fo1 _) | with_reducible refine GpY.tr ?_ (gd_fo2 _) | with_reducible refine GpY.tr ?_ (gd_fo3 _) | with_reducible refine GpY.tr ?_ (gd_fex _) | with_reducible refine GpY.tr ?_ (pg_var.1) | with_reducible refine GpY.tr ?_ (pg_cas.1) | with_reducible refine GpY.tr ?_ (gd_bd _) | with_reducible refine GpY.tr ?_ (gd_pal _ _ _) | with_reducible refine GpY.tr ?_ (gd_pa3 _) | with_reducible refine GpY.tr ?_ (gd_par _) | with_reducible refine GpY.tr ?_ (gd_me2 _) | with_reducible refine GpY.tr ?_ (gd_me3 _) | with_reducible refine GpY.tr ?_ (gd_pa2 _) | with_reducible refine GpY.tr ?_ (gd_pa1 _) | with_reducible refine GpY.tr ?_ (gd_met _) | exact GpY.rf))
        · dsimp only [Option.toList, List.cons_append, List.nil_append, Nat.beq, gI_sI, gI_sL, gI_sA, gI_sM, gL_sI, gL_sL, gL_sA, gL_sM, aI_sI, aI_sL, aI_sA, aI_sM, aL_sI, aL_sL, aL_sA, aL_sM]
          have hM48 := MhR.s1 hM hX48 hS48
          have hMz48 : MZ N τ48 (accM z) := MZ.s1 hMz hS48 hL48 rfl kK_acc
          have hs48 : (accM z).1 = (accY z.1) := congrArg accY rfl
          refine ⟨fun h51 => ?_, fun h51 => absurd h51 (by decide)⟩
          clear h51
          refine hB _ _ _ _ _ (fun m52 hm52 => ?_)
          dsimp only [ugo, uwp, ust, uct, rfd, Bmethod, Nat.beq, lv_args, rlk, rs1, rs2, rdl, rky, rcd, rno, rsw, Value.category, List.filter, List.take, List.drop, List.reverse, List.reverseAux, List.cons_append, List.nil_append, Option.toList, Int.toNat, Int.reduceToNat, if_pos, if_neg, reduceIte, ↓reduceIte, Nat.reduceAdd, Nat.reduceEqDiff, Nat.reduceBEq, beq_self_eq_true, Bool.not_true, Bool.not_false, Bool.and_true, Bool.and_false, Bool.true_and, Bool.false_and, gI_sI, gI_sL, gI_sA, gI_sM, gL_sI, gL_sL, gL_sA, gL_sM, aI_sI, aI_sL, aI_sA, aI_sM, aL_sI, aL_sL, aL_sA, aL_sM, Bmethod_0, Bmethod_8, Bmethod_19, Bmethod_24, Bmethod_41, Bmethod_43, Bmethod_56, Bmethod_61, Bmethod_70, Bmethod_80, Bmethod_141, Bmethod_150, Bmethod_152, Bmethod_161, Bmethod_165, Bmethod_166, Bmethod_168, Bmethod_173, Bmethod_182, Bmethod_184, Bmethod_197, Bmethod_204, Bmethod_206, Bmethod_215, Bmethod_217, Bmethod_246, Bmethod_257, Bmethod_259, Bmethod_266, Bmethod_273, Bmethod_275, oi_0, oi_1, oi_10, oi_123, oi_3, oi_40, oi_41, oi_44, oi_5, oi_m2]; try dsimp only
          intro p53
          refine ⟨fun h54 => ?_, fun h54 => ?_⟩
          · refine hB _ _ _ _ _ (fun m55 hm55 => ?_)
            dsimp only [ugo, uwp, ust, uct, rfd, Bmethod, Nat.beq, lv_args, rlk, rs1, rs2, rdl, rky, rcd, rno, rsw, Value.category, List.filter, List.take, List.drop, List.reverse, List.reverseAux, List.cons_append, List.nil_append, Option.toList, Int.toNat, Int.reduceToNat, if_pos, if_neg, reduceIte, ↓reduceIte, Nat.reduceAdd, Nat.reduceEqDiff, Nat.reduceBEq, beq_self_eq_true, Bool.not_true, Bool.not_false, Bool.and_true, Bool.and_false, Bool.true_and, Bool.false_and, gI_sI, gI_sL, gI_sA, gI_sM, gL_sI, gL_sL, gL_sA, gL_sM, aI_sI, aI_sL, aI_sA, aI_sM, aL_sI, aL_sL, aL_sA, aL_sM, Bmethod_0, Bmethod_8, Bmethod_19, Bmethod_24, Bmethod_41, Bmethod_43, Bmethod_56, Bmethod_61, Bmethod_70, Bmethod_80, Bmethod_141, Bmethod_150, Bmethod_152, Bmethod_161, Bmethod_165, Bmethod_166, Bmethod_168, Bmethod_173, Bmethod_182, Bmethod_184, Bmethod_197, Bmethod_204, Bmethod_206, Bmethod_215, Bmethod_217, Bmethod_246, Bmethod_257, Bmethod_259, Bmethod_266, Bmethod_273, Bmethod_275, oi_0, oi_1, oi_10, oi_123, oi_3, oi_40, oi_41, oi_44, oi_5, oi_m2]; try dsimp only
            have hcn := hM48.1.ki.2.2.1.mp (by exact h54)
            have hMm := hM48
            refine ⟨fun h56 => ?_, fun h56 => ?_⟩
            · refine hB _ _ _ _ _ (fun m57 hm57 => ?_)
              dsimp only [ugo, uwp, ust, uct, rfd, Bmethod, Nat.beq, lv_args, rlk, rs1, rs2, rdl, rky, rcd, rno, rsw, Value.category, List.filter, List.take, List.drop, List.reverse, List.reverseAux, List.cons_append, List.nil_append, Option.toList, Int.toNat, Int.reduceToNat, if_pos, if_neg, reduceIte, ↓reduceIte, Nat.reduceAdd, Nat.reduceEqDiff, Nat.reduceBEq, beq_self_eq_true, Bool.not_true, Bool.not_false, Bool.and_true, Bool.and_false, Bool.true_and, Bool.false_and, gI_sI, gI_sL, gI_sA, gI_sM, gL_sI, gL_sL, gL_sA, gL_sM, aI_sI, aI_sL, aI_sA, aI_sM, aL_sI, aL_sL, aL_sA, aL_sM, Bmethod_0, Bmethod_8, Bmethod_19, Bmethod_24, Bmethod_41, Bmethod_43, Bmethod_56, Bmethod_61, Bmethod_70, Bmethod_80, Bmethod_141, Bmethod_150, Bmethod_152, Bmethod_161, Bmethod_165, Bmethod_166, Bmethod_168, Bmethod_173, Bmethod_182, Bmethod_184, Bmethod_197, Bmethod_204, Bmethod_206, Bmethod_215, Bmethod_217, Bmethod_246, Bmethod_257, Bmethod_259, Bmethod_266, Bmethod_273, Bmethod_275, oi_0, oi_1, oi_10, oi_123, oi_3, oi_40, oi_41, oi_44, oi_5, oi_m2]; try dsimp only
              have h10 : ¬ gI τ48 36 = 10 := by lia
              have hl10 : ¬ 10 ≤ (zMs (accY z.1)).length := by
                rw [hM48.2.2.2.1, mlR_l]
                have q1 := hM48.2.2.2.2.1
                have q2 := nT_lt q1.1 (show gI τ48 36 < 10 by lia)
                have q3 : nT (10 : Int32) = 10 := rfl
                omega
              have hMt : mthY z.1 = bdY (xpY 1 (pa3Y (xpY 0 (accY (metY (aI σ 6 (gI σ 14).toNatClampNeg).toInt (accY z.1)))))) := by
                unfold mthY
                rw [me1_y hcd, me2_y hcn hl10, me3_y hM48.1.1.1, ← hM.1.ty2 (by omega)]
                rfl
              have hMe0 := me_yM (N := N) hcd hcn hl10 hM48.1.1.1
              rw [← hM.1.ty2 (by omega)] at hMe0
              intro p58
              intro p59
              intro p60
              intro p61
              refine ⟨trivial, fun w62 τ62 hq62 => ?_⟩
              obtain ⟨hq62, hL62⟩ := hq62
              obtain ⟨rfl, hTz62⟩ := hq62 trivial
              have hT62 := hTz62.1
              have hP62 : PaR τ62 (metY (aI σ 6 (gI σ 14).toNatClampNeg).toInt (accY z.1)) 0 := PaR.new hM48 h10 hT62
              have hk62 := th49 hT62
              dsimp only [Option.toList, List.cons_append, List.nil_append, Nat.beq, gI_sI, gI_sL, gI_sA, gI_sM, gL_sI, gL_sL, gL_sA, gL_sM, aI_sI, aI_sL, aI_sA, aI_sM, aL_sI, aL_sL, aL_sA, aL_sM]
              have hcm : codY (metY (aI σ 6 (gI σ 14).toNatClampNeg).toInt (accY z.1)) = 80 := hcn
              have hPz62 : PZ N τ62 (me0M (aI σ 6 (gI σ 14).toNatClampNeg).toInt (accM z)) (tnM (accM z)) := MZ.me (ty' := (aI σ 6 (gI σ 14).toNatClampNeg).toInt) hMz48 hTz62 hL62
              have hs62 : (me0M (aI σ 6 (gI σ 14).toNatClampNeg).toInt (accM z)).1 = (metY (aI σ 6 (gI σ 14).toNatClampNeg).toInt (accY z.1)) := congrArg (metY (aI σ 6 (gI σ 14).toNatClampNeg).toInt) hs48
              have hkk : (gI τ48 49).toInt = (tnM (accM z) : Int) := by rw [toI_n hMz48.2.2.2.2.1.1, hMz48.2.1]
              have g36t : gI τ62 36 = gI τ48 36 := hT62.1 36 (by decide)
              have g37t : aI τ62 37 = upd (aI τ48 37) (gI τ48 36).toNatClampNeg (gI τ48 14) := (hT62.2.2.2.1 37 (by omega)).trans rfl
              refine ⟨trivial, fun w63 τ63 hq63 => ?_⟩
              obtain ⟨hq63, hL63⟩ := hq63
              have hq63 := hq63 _ (metY (aI σ 6 (gI σ 14).toNatClampNeg).toInt (accY z.1)) 21 ⟨(PaR.x hP62), by omega, by omega⟩
              rcases hq63 with ⟨rfl, hF63⟩ | ⟨rfl, hX63, hz63, hS63⟩
              · dsimp only [Option.toList, List.cons_append, List.nil_append, Nat.beq, gI_sI, gI_sL, gI_sA, gI_sM, gL_sI, gL_sL, gL_sA, gL_sM, aI_sI, aI_sL, aI_sA, aI_sM, aL_sI, aL_sL, aL_sA, aL_sM]
                refine ⟨fun h64 => ?_, fun h64 => absurd h64 (by decide)⟩
                clear h64
                refine hB _ _ _ _ _ (fun m65 hm65 => ?_)
                dsimp only [ugo, uwp, ust, uct, rfd, Bmethod, Nat.beq, lv_args, rlk, rs1, rs2, rdl, rky, rcd, rno, rsw, Value.category, List.filter, List.take, List.drop, List.reverse, List.reverseAux, List.cons_append, List.nil_append, Option.toList, Int.toNat, Int.reduceToNat, if_pos, if_neg, reduceIte, ↓reduceIte, Nat.reduceAdd, Nat.reduceEqDiff, Nat.reduceBEq, beq_self_eq_true, Bool.not_true, Bool.not_false, Bool.and_true, Bool.and_false, Bool.true_and, Bool.false_and, gI_sI, gI_sL, gI_sA, gI_sM, gL_sI, gL_sL, gL_sA, gL_sM, aI_sI, aI_sL, aI_sA, aI_sM, aL_sI, aL_sL, aL_sA, aL_sM, Bmethod_0, Bmethod_8, Bmethod_19, Bmethod_24, Bmethod_41, Bmethod_43, Bmethod_56, Bmethod_61, Bmethod_70, Bmethod_80, Bmethod_141, Bmethod_150, Bmethod_152, Bmethod_161, Bmethod_165, Bmethod_166, Bmethod_168, Bmethod_173, Bmethod_182, Bmethod_184, Bmethod_197, Bmethod_204, Bmethod_206, Bmethod_215, Bmethod_217, Bmethod_246, Bmethod_257, Bmethod_259, Bmethod_266, Bmethod_273, Bmethod_275, oi_0, oi_1, oi_10, oi_123, oi_3, oi_40, oi_41, oi_44, oi_5, oi_m2]; try dsimp only
                unfold Qv_methodZ
                try dsimp only
                rw [lf_me, hMt]
                exact Or.inl ⟨rfl, FlR.g hF63 (by repeat (first | with_reducible exact GpY.rf | with_reducible refine GpY.tr ?_ (gd_fo _) | with_reducible refine GpY.tr ?_ (gd_ef _) | with_reducible refine GpY.tr ?_ (gd_cf _) | with_reducible refine GpY.tr ?_ (gd_wt _) | with_reducible refine GpY.tr ?_ (gd_xp _) | with_reducible refine GpY.tr ?_ (gd_acc _) | with_reducible refine GpY.tr ?_ (gd_rai _) | with_reducible refine GpY.tr ?_ (gd_e _) | with_reducible refine GpY.tr ?_ (gd_o _) | with_reducible refine GpY.tr ?_ (gd_c _) | with_reducible refine GpY.tr ?_ (gd_op _) | with_reducible refine GpY.tr ?_ (gd_clp gd_e _ _) | with_reducible refine GpY.tr ?_ (gd_tl _) | with_reducible refine GpY.tr ?_ (gd_sf _ _ _) | with_reducible refine GpY.tr ?_ (gd_cl _) | with_reducible refine GpY.tr ?_ (gd_pc _) | with_reducible refine GpY.tr ?_ (gd_st _) | with_reducible refine GpY.tr ?_ (gd_rw _) | with_reducible refine GpY.tr ?_ (gd_typ _) | with_reducible refine GpY.tr ?_ (gd_dcl _) | with_reducible refine GpY.tr ?_ (gd_va2 _) | with_reducible refine GpY.tr ?_ (gd_cnd _) | with_reducible refine GpY.tr ?_ (gd_tr1 _) | with_reducible refine GpY.tr ?_ (gd_tr2 (fun _ => gd_rw) _) | with_reducible refine GpY.tr ?_ (gd_tr3 (fun _ => gd_rw) _) | with_reducible refine GpY.tr ?_ (gd_fo1 _) | with_reducible refine GpY.tr ?_ (gd_fo2 _) | with_reducible refine GpY.tr ?_ (gd_fo3 _) | with_reducible refine GpY.tr ?_ (gd_fex _) | with_reducible refine GpY.tr ?_ (pg_var.1) | with_reducible refine GpY.tr ?_ (pg_cas.1) | with_reducible refine GpY.tr ?_ (gd_bd _) | with_reducible refine GpY.tr ?_ (gd_pal _ _ _) | with_reducible refine GpY.tr ?_ (gd_pa3 _) | with_reducible refine GpY.tr ?_ (gd_par _) | with_reducible refine GpY.tr ?_ (gd_me2 _) | with_reducible refine GpY.tr ?_ (gd_me3 _) | with_reducible refine GpY.tr ?_ (gd_pa2 _) | with_reducible refine GpY.tr ?_ (gd_pa1 _) | with_reducible refine GpY.tr ?_ (gd_met _) | exact GpY.rf))⟩
              · dsimp only [Option.toList, List.cons_append, List.nil_append, Nat.beq, gI_sI, gI_sL, gI_sA, gI_sM, gL_sI, gL_sL, gL_sA, gL_sM, aI_sI, aI_sL, aI_sA, aI_sM, aL_sI, aL_sL, aL_sA, aL_sM]
                have hP63 := PaR.s1 hP62 hX63 hS63
                have g6_63 : gI τ63 36 = gI τ62 36 := (hS63.1 36 (by decide)).trans rfl
                have g9_63 : gI τ63 49 = gI τ62 49 := (hS63.1 49 (by decide)).trans rfl
                have hPz63 : PZ N τ63 (accM (me0M (aI σ 6 (gI σ 14).toNatClampNeg).toInt (accM z))) (tnM (accM z)) := PZ.s1 hPz62 hS63 hL63 rfl kK_acc
                have hs63 : (accM (me0M (aI σ 6 (gI σ 14).toNatClampNeg).toInt (accM z))).1 = (accY (metY (aI σ 6 (gI σ 14).toNatClampNeg).toInt (accY z.1))) := congrArg accY hs62
                have r37_63 : aI τ63 37 = aI τ62 37 := (hS63.2 37).trans rfl
                refine ⟨fun h66 => absurd h66 (by decide), fun h66 => ?_⟩
                clear h66
                refine hB _ _ _ _ _ (fun m67 hm67 => ?_)
                dsimp only [ugo, uwp, ust, uct, rfd, Bmethod, Nat.beq, lv_args, rlk, rs1, rs2, rdl, rky, rcd, rno, rsw, Value.category, List.filter, List.take, List.drop, List.reverse, List.reverseAux, List.cons_append, List.nil_append, Option.toList, Int.toNat, Int.reduceToNat, if_pos, if_neg, reduceIte, ↓reduceIte, Nat.reduceAdd, Nat.reduceEqDiff, Nat.reduceBEq, beq_self_eq_true, Bool.not_true, Bool.not_false, Bool.and_true, Bool.and_false, Bool.true_and, Bool.false_and, gI_sI, gI_sL, gI_sA, gI_sM, gL_sI, gL_sL, gL_sA, gL_sM, aI_sI, aI_sL, aI_sA, aI_sM, aL_sI, aL_sL, aL_sA, aL_sM, Bmethod_0, Bmethod_8, Bmethod_19, Bmethod_24, Bmethod_41, Bmethod_43, Bmethod_56, Bmethod_61, Bmethod_70, Bmethod_80, Bmethod_141, Bmethod_150, Bmethod_152, Bmethod_161, Bmethod_165, Bmethod_166, Bmethod_168, Bmethod_173, Bmethod_182, Bmethod_184, Bmethod_197, Bmethod_204, Bmethod_206, Bmethod_215, Bmethod_217, Bmethod_246, Bmethod_257, Bmethod_259, Bmethod_266, Bmethod_273, Bmethod_275, oi_0, oi_1, oi_10, oi_123, oi_3, oi_40, oi_41, oi_44, oi_5, oi_m2]; try dsimp only
                refine ⟨trivial, fun w68 τ68 hq68 => ?_⟩
                obtain ⟨hq68, hL68⟩ := hq68
                have hq68 := hq68 _ (accY (metY (aI σ 6 (gI σ 14).toNatClampNeg).toInt (accY z.1))) 21 0 ⟨(PaR.x hP63), by decide⟩
                rcases hq68 with ⟨rfl, hF68⟩ | ⟨rfl, hc68, hX68, hz68, hS68⟩
                · dsimp only [Option.toList, List.cons_append, List.nil_append, Nat.beq, gI_sI, gI_sL, gI_sA, gI_sM, gL_sI, gL_sL, gL_sA, gL_sM, aI_sI, aI_sL, aI_sA, aI_sM, aL_sI, aL_sL, aL_sA, aL_sM]
                  refine ⟨fun h69 => absurd h69 (by decide), fun h69 => ?_⟩
                  clear h69
                  refine hB _ _ _ _ _ (fun m70 hm70 => ?_)
                  dsimp only [ugo, uwp, ust, uct, rfd, Bmethod, Nat.beq, lv_args, rlk, rs1, rs2, rdl, rky, rcd, rno, rsw, Value.category, List.filter, List.take, List.drop, List.reverse, List.reverseAux, List.cons_append, List.nil_append, Option.toList, Int.toNat, Int.reduceToNat, if_pos, if_neg, reduceIte, ↓reduceIte, Nat.reduceAdd, Nat.reduceEqDiff, Nat.reduceBEq, beq_self_eq_true, Bool.not_true, Bool.not_false, Bool.and_true, Bool.and_false, Bool.true_and, Bool.false_and, gI_sI, gI_sL, gI_sA, gI_sM, gL_sI, gL_sL, gL_sA, gL_sM, aI_sI, aI_sL, aI_sA, aI_sM, aL_sI, aL_sL, aL_sA, aL_sM, Bmethod_0, Bmethod_8, Bmethod_19, Bmethod_24, Bmethod_41, Bmethod_43, Bmethod_56, Bmethod_61, Bmethod_70, Bmethod_80, Bmethod_141, Bmethod_150, Bmethod_152, Bmethod_161, Bmethod_165, Bmethod_166, Bmethod_168, Bmethod_173, Bmethod_182, Bmethod_184, Bmethod_197, Bmethod_204, Bmethod_206, Bmethod_215, Bmethod_217, Bmethod_246, Bmethod_257, Bmethod_259, Bmethod_266, Bmethod_273, Bmethod_275, oi_0, oi_1, oi_10, oi_123, oi_3, oi_40, oi_41, oi_44, oi_5, oi_m2]; try dsimp only
                  unfold Qv_methodZ
                  try dsimp only
                  rw [lf_me, hMt]
                  exact Or.inl ⟨rfl, FlR.g hF68 (by repeat (first | with_reducible exact GpY.rf | with_reducible refine GpY.tr ?_ (gd_fo _) | with_reducible refine GpY.tr ?_ (gd_ef _) | with_reducible refine GpY.tr ?_ (gd_cf _) | with_reducible refine GpY.tr ?_ (gd_wt _) | with_reducible refine GpY.tr ?_ (gd_xp _) | with_reducible refine GpY.tr ?_ (gd_acc _) | with_reducible refine GpY.tr ?_ (gd_rai _) | with_reducible refine GpY.tr ?_ (gd_e _) | with_reducible refine GpY.tr ?_ (gd_o _) | with_reducible refine GpY.tr ?_ (gd_c _) | with_reducible refine GpY.tr ?_ (gd_op _) | with_reducible refine GpY.tr ?_ (gd_clp gd_e _ _) | with_reducible refine GpY.tr ?_ (gd_tl _) | with_reducible refine GpY.tr ?_ (gd_sf _ _ _) | with_reducible refine GpY.tr ?_ (gd_cl _) | with_reducible refine GpY.tr ?_ (gd_pc _) | with_reducible refine GpY.tr ?_ (gd_st _) | with_reducible refine GpY.tr ?_ (gd_rw _) | with_reducible refine GpY.tr ?_ (gd_typ _) | with_reducible refine GpY.tr ?_ (gd_dcl _) | with_reducible refine GpY.tr ?_ (gd_va2 _) | with_reducible refine GpY.tr ?_ (gd_cnd _) | with_reducible refine GpY.tr ?_ (gd_tr1 _) | with_reducible refine GpY.tr ?_ (gd_tr2 (fun _ => gd_rw) _) | with_reducible refine GpY.tr ?_ (gd_tr3 (fun _ => gd_rw) _) | with_reducible refine GpY.tr ?_ (gd_fo1 _) | with_reducible refine GpY.tr ?_ (gd_fo2 _) | with_reducible refine GpY.tr ?_ (gd_fo3 _) | with_reducible refine GpY.tr ?_ (gd_fex _) | with_reducible refine GpY.tr ?_ (pg_var.1) | with_reducible refine GpY.tr ?_ (pg_cas.1) | with_reducible refine GpY.tr ?_ (gd_bd _) | with_reducible refine GpY.tr ?_ (gd_pal _ _ _) | with_reducible refine GpY.tr ?_ (gd_pa3 _) | with_reducible refine GpY.tr ?_ (gd_par _) | with_reducible refine GpY.tr ?_ (gd_me2 _) | with_reducible refine GpY.tr ?_ (gd_me3 _) | with_reducible refine GpY.tr ?_ (gd_pa2 _) | with_reducible refine GpY.tr ?_ (gd_pa1 _) | with_reducible refine GpY.tr ?_ (gd_met _) | exact GpY.rf))⟩
                · dsimp only [Option.toList, List.cons_append, List.nil_append, Nat.beq, gI_sI, gI_sL, gI_sA, gI_sM, gL_sI, gL_sL, gL_sA, gL_sM, aI_sI, aI_sL, aI_sA, aI_sM, aL_sI, aL_sL, aL_sA, aL_sM]
                  have hP68 := PaR.s1 hP63 hX68 hS68
                  have g6_68 : gI τ68 36 = gI τ62 36 := (hS68.1 36 (by decide)).trans g6_63
                  have g9_68 : gI τ68 49 = gI τ62 49 := (hS68.1 49 (by decide)).trans g9_63
                  have hPz68 : PZ N τ68 (xpM 0 (accM (me0M (aI σ 6 (gI σ 14).toNatClampNeg).toInt (accM z)))) (tnM (accM z)) := PZ.s1 hPz63 hS68 hL68 rfl kK_xp
                  have hs68 : (xpM 0 (accM (me0M (aI σ 6 (gI σ 14).toNatClampNeg).toInt (accM z)))).1 = (accY (accY (metY (aI σ 6 (gI σ 14).toNatClampNeg).toInt (accY z.1)))) := (congrArg (xpY 0) hs63).trans (xp_y hc68)
                  have r37_68 : aI τ68 37 = aI τ62 37 := (hS68.2 37).trans r37_63
                  refine ⟨fun h71 => ?_, fun h71 => absurd h71 (by decide)⟩
                  clear h71
                  refine hB _ _ _ _ _ (fun m72 hm72 => ?_)
                  dsimp only [ugo, uwp, ust, uct, rfd, Bmethod, Nat.beq, lv_args, rlk, rs1, rs2, rdl, rky, rcd, rno, rsw, Value.category, List.filter, List.take, List.drop, List.reverse, List.reverseAux, List.cons_append, List.nil_append, Option.toList, Int.toNat, Int.reduceToNat, if_pos, if_neg, reduceIte, ↓reduceIte, Nat.reduceAdd, Nat.reduceEqDiff, Nat.reduceBEq, beq_self_eq_true, Bool.not_true, Bool.not_false, Bool.and_true, Bool.and_false, Bool.true_and, Bool.false_and, gI_sI, gI_sL, gI_sA, gI_sM, gL_sI, gL_sL, gL_sA, gL_sM, aI_sI, aI_sL, aI_sA, aI_sM, aL_sI, aL_sL, aL_sA, aL_sM, Bmethod_0, Bmethod_8, Bmethod_19, Bmethod_24, Bmethod_41, Bmethod_43, Bmethod_56, Bmethod_61, Bmethod_70, Bmethod_80, Bmethod_141, Bmethod_150, Bmethod_152, Bmethod_161, Bmethod_165, Bmethod_166, Bmethod_168, Bmethod_173, Bmethod_182, Bmethod_184, Bmethod_197, Bmethod_204, Bmethod_206, Bmethod_215, Bmethod_217, Bmethod_246, Bmethod_257, Bmethod_259, Bmethod_266, Bmethod_273, Bmethod_275, oi_0, oi_1, oi_10, oi_123, oi_3, oi_40, oi_41, oi_44, oi_5, oi_m2]; try dsimp only
                  refine ⟨trivial, fun w73 τ73 hq73 => ?_⟩
                  obtain ⟨hq73, hL73⟩ := hq73
                  obtain ⟨rfl, b73, rfl, hb73⟩ := hq73 trivial
                  have he73 := (XrR.s (PaR.x hP68)).sg (x := 41) (d := 1) (by decide)
                  rcases hb73 with ⟨rfl, hk73⟩ | ⟨rfl, hk73⟩
                  · dsimp only [Option.toList, List.cons_append, List.nil_append, Nat.beq, gI_sI, gI_sL, gI_sA, gI_sM, gL_sI, gL_sL, gL_sA, gL_sM, aI_sI, aI_sL, aI_sA, aI_sM, aL_sI, aL_sL, aL_sA, aL_sM]
                    have hc73 : codY (accY (accY (metY (aI σ 6 (gI σ 14).toNatClampNeg).toInt (accY z.1)))) = 1 := he73.mp hk73
                    refine ⟨fun h74 => ?_, fun h74 => absurd h74 (by decide)⟩
                    clear h74
                    refine hB _ _ _ _ _ (fun m75 hm75 => ?_)
                    dsimp only [ugo, uwp, ust, uct, rfd, Bmethod, Nat.beq, lv_args, rlk, rs1, rs2, rdl, rky, rcd, rno, rsw, Value.category, List.filter, List.take, List.drop, List.reverse, List.reverseAux, List.cons_append, List.nil_append, Option.toList, Int.toNat, Int.reduceToNat, if_pos, if_neg, reduceIte, ↓reduceIte, Nat.reduceAdd, Nat.reduceEqDiff, Nat.reduceBEq, beq_self_eq_true, Bool.not_true, Bool.not_false, Bool.and_true, Bool.and_false, Bool.true_and, Bool.false_and, gI_sI, gI_sL, gI_sA, gI_sM, gL_sI, gL_sL, gL_sA, gL_sM, aI_sI, aI_sL, aI_sA, aI_sM, aL_sI, aL_sL, aL_sA, aL_sM, Bmethod_0, Bmethod_8, Bmethod_19, Bmethod_24, Bmethod_41, Bmethod_43, Bmethod_56, Bmethod_61, Bmethod_70, Bmethod_80, Bmethod_141, Bmethod_150, Bmethod_152, Bmethod_161, Bmethod_165, Bmethod_166, Bmethod_168, Bmethod_173, Bmethod_182, Bmethod_184, Bmethod_197, Bmethod_204, Bmethod_206, Bmethod_215, Bmethod_217, Bmethod_246, Bmethod_257, Bmethod_259, Bmethod_266, Bmethod_273, Bmethod_275, oi_0, oi_1, oi_10, oi_123, oi_3, oi_40, oi_41, oi_44, oi_5, oi_m2]; try dsimp only
                    refine hB _ _ _ _ _ (fun m76 hm76 => ?_)
                    dsimp only [ugo, uwp, ust, uct, rfd, Bmethod, Nat.beq, lv_args, rlk, rs1, rs2, rdl, rky, rcd, rno, rsw, Value.category, List.filter, List.take, List.drop, List.reverse, List.reverseAux, List.cons_append, List.nil_append, Option.toList, Int.toNat, Int.reduceToNat, if_pos, if_neg, reduceIte, ↓reduceIte, Nat.reduceAdd, Nat.reduceEqDiff, Nat.reduceBEq, beq_self_eq_true, Bool.not_true, Bool.not_false, Bool.and_true, Bool.and_false, Bool.true_and, Bool.false_and, gI_sI, gI_sL, gI_sA, gI_sM, gL_sI, gL_sL, gL_sA, gL_sM, aI_sI, aI_sL, aI_sA, aI_sM, aL_sI, aL_sL, aL_sA, aL_sM, Bmethod_0, Bmethod_8, Bmethod_19, Bmethod_24, Bmethod_41, Bmethod_43, Bmethod_56, Bmethod_61, Bmethod_70, Bmethod_80, Bmethod_141, Bmethod_150, Bmethod_152, Bmethod_161, Bmethod_165, Bmethod_166, Bmethod_168, Bmethod_173, Bmethod_182, Bmethod_184, Bmethod_197, Bmethod_204, Bmethod_206, Bmethod_215, Bmethod_217, Bmethod_246, Bmethod_257, Bmethod_259, Bmethod_266, Bmethod_273, Bmethod_275, oi_0, oi_1, oi_10, oi_123, oi_3, oi_40, oi_41, oi_44, oi_5, oi_m2]; try dsimp only
                    exact hW _ 168 [(0, .ref 1000), (1, .int (aI σ 6 (gI σ 14).toNatClampNeg)), (2, .int (gI τ48 36)), (3, .int (gI τ48 49)), (4, .int 0)] _ _ _ (by simp [rdl, rky]) (t168 _ _ ((zMs (accY z.1)).length : Int) (zAt (accY z.1)) (tnM (accM z)) (xpM 0 (accM (me0M (aI σ 6 (gI σ 14).toNatClampNeg).toInt (accM z)))) 0 _ _ _ 0 (by rw [show (xpM 0 (accM (me0M (aI σ 6 (gI σ 14).toNatClampNeg).toInt (accM z)))).1 = (accY (accY (metY (aI σ 6 (gI σ 14).toNatClampNeg).toInt (accY z.1)))) from hs68]; exact hP68) (by rw [g6_68]; exact ((hT62.1 36 (by decide)).trans rfl).symm) hPz68 hkk ⟨by rw [g6_68, g36t, toI_n hMm.2.2.2.2.1.1, hMm.2.2.2.1, mlR_l], by rw [g6_68, r37_68, g36t, g37t, upd_eq]; exact hMm.1.2.1.1.symm⟩ (by rw [show (xpM 0 (accM (me0M (aI σ 6 (gI σ 14).toNatClampNeg).toInt (accM z)))).1 = (accY (accY (metY (aI σ 6 (gI σ 14).toNatClampNeg).toInt (accY z.1)))) from hs68]; first | exact GpY.a1 (((gd_met (accY z.1)).tr (gd_acc _)).tr (gd_acc _)) hMm.1.a5.2 (by have q := (acc_pg hMm.1.1.1).2.1; have q2 := hM.1.a5.1; omega) | exact GpY.a1 (((gd_met (accY z.1)).tr (gd_acc _)).tr (gd_xp _)) hMm.1.a5.2 (by have q := (acc_pg hMm.1.1.1).2.1; have q2 := hM.1.a5.1; omega)) (by rw [hMe0]; exact Nat.succ_pos _) (Or.inr ⟨rfl, by rw [hMe0, pa3_yM (by rw [show (xpM 0 (accM (me0M (aI σ 6 (gI σ 14).toNatClampNeg).toInt (accM z)))).1 = (accY (accY (metY (aI σ 6 (gI σ 14).toNatClampNeg).toInt (accY z.1)))) from hs68]; assumption)]⟩))
                  · dsimp only [Option.toList, List.cons_append, List.nil_append, Nat.beq, gI_sI, gI_sL, gI_sA, gI_sM, gL_sI, gL_sL, gL_sA, gL_sM, aI_sI, aI_sL, aI_sA, aI_sM, aL_sI, aL_sL, aL_sA, aL_sM]
                    have hc73 : ¬ codY (accY (accY (metY (aI σ 6 (gI σ 14).toNatClampNeg).toInt (accY z.1)))) = 1 := fun q => hk73 (he73.mpr q)
                    refine ⟨fun h77 => absurd h77 (by decide), fun h77 => ?_⟩
                    clear h77
                    refine hB _ _ _ _ _ (fun m78 hm78 => ?_)
                    dsimp only [ugo, uwp, ust, uct, rfd, Bmethod, Nat.beq, lv_args, rlk, rs1, rs2, rdl, rky, rcd, rno, rsw, Value.category, List.filter, List.take, List.drop, List.reverse, List.reverseAux, List.cons_append, List.nil_append, Option.toList, Int.toNat, Int.reduceToNat, if_pos, if_neg, reduceIte, ↓reduceIte, Nat.reduceAdd, Nat.reduceEqDiff, Nat.reduceBEq, beq_self_eq_true, Bool.not_true, Bool.not_false, Bool.and_true, Bool.and_false, Bool.true_and, Bool.false_and, gI_sI, gI_sL, gI_sA, gI_sM, gL_sI, gL_sL, gL_sA, gL_sM, aI_sI, aI_sL, aI_sA, aI_sM, aL_sI, aL_sL, aL_sA, aL_sM, Bmethod_0, Bmethod_8, Bmethod_19, Bmethod_24, Bmethod_41, Bmethod_43, Bmethod_56, Bmethod_61, Bmethod_70, Bmethod_80, Bmethod_141, Bmethod_150, Bmethod_152, Bmethod_161, Bmethod_165, Bmethod_166, Bmethod_168, Bmethod_173, Bmethod_182, Bmethod_184, Bmethod_197, Bmethod_204, Bmethod_206, Bmethod_215, Bmethod_217, Bmethod_246, Bmethod_257, Bmethod_259, Bmethod_266, Bmethod_273, Bmethod_275, oi_0, oi_1, oi_10, oi_123, oi_3, oi_40, oi_41, oi_44, oi_5, oi_m2]; try dsimp only
                    refine hB _ _ _ _ _ (fun m79 hm79 => ?_)
                    dsimp only [ugo, uwp, ust, uct, rfd, Bmethod, Nat.beq, lv_args, rlk, rs1, rs2, rdl, rky, rcd, rno, rsw, Value.category, List.filter, List.take, List.drop, List.reverse, List.reverseAux, List.cons_append, List.nil_append, Option.toList, Int.toNat, Int.reduceToNat, if_pos, if_neg, reduceIte, ↓reduceIte, Nat.reduceAdd, Nat.reduceEqDiff, Nat.reduceBEq, beq_self_eq_true, Bool.not_true, Bool.not_false, Bool.and_true, Bool.and_false, Bool.true_and, Bool.false_and, gI_sI, gI_sL, gI_sA, gI_sM, gL_sI, gL_sL, gL_sA, gL_sM, aI_sI, aI_sL, aI_sA, aI_sM, aL_sI, aL_sL, aL_sA, aL_sM, Bmethod_0, Bmethod_8, Bmethod_19, Bmethod_24, Bmethod_41, Bmethod_43, Bmethod_56, Bmethod_61, Bmethod_70, Bmethod_80, Bmethod_141, Bmethod_150, Bmethod_152, Bmethod_161, Bmethod_165, Bmethod_166, Bmethod_168, Bmethod_173, Bmethod_182, Bmethod_184, Bmethod_197, Bmethod_204, Bmethod_206, Bmethod_215, Bmethod_217, Bmethod_246, Bmethod_257, Bmethod_259, Bmethod_266, Bmethod_273, Bmethod_275, oi_0, oi_1, oi_10, oi_123, oi_3, oi_40, oi_41, oi_44, oi_5, oi_m2]; try dsimp only
                    exact hW _ 168 [(0, .ref 1000), (1, .int (aI σ 6 (gI σ 14).toNatClampNeg)), (2, .int (gI τ48 36)), (3, .int (gI τ48 49)), (4, .int 1)] _ _ _ (by simp [rdl, rky]) (t168 _ _ ((zMs (accY z.1)).length : Int) (zAt (accY z.1)) (tnM (accM z)) (xpM 0 (accM (me0M (aI σ 6 (gI σ 14).toNatClampNeg).toInt (accM z)))) 0 _ _ _ 1 (by rw [show (xpM 0 (accM (me0M (aI σ 6 (gI σ 14).toNatClampNeg).toInt (accM z)))).1 = (accY (accY (metY (aI σ 6 (gI σ 14).toNatClampNeg).toInt (accY z.1)))) from hs68]; exact hP68) (by rw [g6_68]; exact ((hT62.1 36 (by decide)).trans rfl).symm) hPz68 hkk ⟨by rw [g6_68, g36t, toI_n hMm.2.2.2.2.1.1, hMm.2.2.2.1, mlR_l], by rw [g6_68, r37_68, g36t, g37t, upd_eq]; exact hMm.1.2.1.1.symm⟩ (by rw [show (xpM 0 (accM (me0M (aI σ 6 (gI σ 14).toNatClampNeg).toInt (accM z)))).1 = (accY (accY (metY (aI σ 6 (gI σ 14).toNatClampNeg).toInt (accY z.1)))) from hs68]; first | exact GpY.a1 (((gd_met (accY z.1)).tr (gd_acc _)).tr (gd_acc _)) hMm.1.a5.2 (by have q := (acc_pg hMm.1.1.1).2.1; have q2 := hM.1.a5.1; omega) | exact GpY.a1 (((gd_met (accY z.1)).tr (gd_acc _)).tr (gd_xp _)) hMm.1.a5.2 (by have q := (acc_pg hMm.1.1.1).2.1; have q2 := hM.1.a5.1; omega)) (by rw [hMe0]; exact Nat.succ_pos _) (Or.inl ⟨rfl, by rw [hMe0, pa3_nM (by rw [show (xpM 0 (accM (me0M (aI σ 6 (gI σ 14).toNatClampNeg).toInt (accM z)))).1 = (accY (accY (metY (aI σ 6 (gI σ 14).toNatClampNeg).toInt (accY z.1)))) from hs68]; assumption)]⟩))
            · refine hB _ _ _ _ _ (fun m80 hm80 => ?_)
              dsimp only [ugo, uwp, ust, uct, rfd, Bmethod, Nat.beq, lv_args, rlk, rs1, rs2, rdl, rky, rcd, rno, rsw, Value.category, List.filter, List.take, List.drop, List.reverse, List.reverseAux, List.cons_append, List.nil_append, Option.toList, Int.toNat, Int.reduceToNat, if_pos, if_neg, reduceIte, ↓reduceIte, Nat.reduceAdd, Nat.reduceEqDiff, Nat.reduceBEq, beq_self_eq_true, Bool.not_true, Bool.not_false, Bool.and_true, Bool.and_false, Bool.true_and, Bool.false_and, gI_sI, gI_sL, gI_sA, gI_sM, gL_sI, gL_sL, gL_sA, gL_sM, aI_sI, aI_sL, aI_sA, aI_sM, aL_sI, aL_sL, aL_sA, aL_sM, Bmethod_0, Bmethod_8, Bmethod_19, Bmethod_24, Bmethod_41, Bmethod_43, Bmethod_56, Bmethod_61, Bmethod_70, Bmethod_80, Bmethod_141, Bmethod_150, Bmethod_152, Bmethod_161, Bmethod_165, Bmethod_166, Bmethod_168, Bmethod_173, Bmethod_182, Bmethod_184, Bmethod_197, Bmethod_204, Bmethod_206, Bmethod_215, Bmethod_217, Bmethod_246, Bmethod_257, Bmethod_259, Bmethod_266, Bmethod_273, Bmethod_275, oi_0, oi_1, oi_10, oi_123, oi_3, oi_40, oi_41, oi_44, oi_5, oi_m2]; try dsimp only
              refine ⟨trivial, fun w81 τ81 hq81 => ?_⟩
              obtain ⟨hq81, hL81⟩ := hq81
              obtain ⟨rfl, hf81⟩ := hq81 trivial
              dsimp only [Option.toList, List.cons_append, List.nil_append, Nat.beq, gI_sI, gI_sL, gI_sA, gI_sM, gL_sI, gL_sL, gL_sA, gL_sM, aI_sI, aI_sL, aI_sA, aI_sM, aL_sI, aL_sL, aL_sA, aL_sM]
              unfold Qv_methodZ
              try dsimp only
              have e := hf81 hM48.1.1.2
              subst e
              refine Or.inl ⟨rfl, FlR.g (S := raiY 3 (accY z.1)) ?_ ?_⟩
              · exact FlR.rai hM48.1 (by decide) (by show (3 : Int32).toInt = _; rw [if_neg (by omega)]; rfl) rfl
              · rw [lf_me]
                unfold mthY
                rw [me1_y hcd, me2_3 hcn (by rw [hM48.2.2.2.1, mlR_l, show gI τ48 36 = 10 by lia]; decide)]
                exact gd_me3 _
          · refine hB _ _ _ _ _ (fun m82 hm82 => ?_)
            dsimp only [ugo, uwp, ust, uct, rfd, Bmethod, Nat.beq, lv_args, rlk, rs1, rs2, rdl, rky, rcd, rno, rsw, Value.category, List.filter, List.take, List.drop, List.reverse, List.reverseAux, List.cons_append, List.nil_append, Option.toList, Int.toNat, Int.reduceToNat, if_pos, if_neg, reduceIte, ↓reduceIte, Nat.reduceAdd, Nat.reduceEqDiff, Nat.reduceBEq, beq_self_eq_true, Bool.not_true, Bool.not_false, Bool.and_true, Bool.and_false, Bool.true_and, Bool.false_and, gI_sI, gI_sL, gI_sA, gI_sM, gL_sI, gL_sL, gL_sA, gL_sM, aI_sI, aI_sL, aI_sA, aI_sM, aL_sI, aL_sL, aL_sA, aL_sM, Bmethod_0, Bmethod_8, Bmethod_19, Bmethod_24, Bmethod_41, Bmethod_43, Bmethod_56, Bmethod_61, Bmethod_70, Bmethod_80, Bmethod_141, Bmethod_150, Bmethod_152, Bmethod_161, Bmethod_165, Bmethod_166, Bmethod_168, Bmethod_173, Bmethod_182, Bmethod_184, Bmethod_197, Bmethod_204, Bmethod_206, Bmethod_215, Bmethod_217, Bmethod_246, Bmethod_257, Bmethod_259, Bmethod_266, Bmethod_273, Bmethod_275, oi_0, oi_1, oi_10, oi_123, oi_3, oi_40, oi_41, oi_44, oi_5, oi_m2]; try dsimp only
            have hnn : ¬ codY (accY z.1) = 80 := fun q => h54 (hM48.1.ki.2.2.1.mpr q)
            refine ⟨trivial, fun w83 τ83 hq83 => ?_⟩
            obtain ⟨hq83, hL83⟩ := hq83
            have hq83 := hq83 (accY z.1) hM48.1
            obtain ⟨rfl, hF83⟩ := hq83
            dsimp only [Option.toList, List.cons_append, List.nil_append, Nat.beq, gI_sI, gI_sL, gI_sA, gI_sM, gL_sI, gL_sL, gL_sA, gL_sM, aI_sI, aI_sL, aI_sA, aI_sM, aL_sI, aL_sL, aL_sA, aL_sM]
            unfold Qv_methodZ
            try dsimp only
            rw [lf_me]
            unfold mthY
            refine Or.inl ⟨rfl, FlR.g hF83 ?_⟩
            rw [me1_y hcd, me2_n hnn]
            exact (by repeat (first | with_reducible exact GpY.rf | with_reducible refine GpY.tr ?_ (gd_fo _) | with_reducible refine GpY.tr ?_ (gd_ef _) | with_reducible refine GpY.tr ?_ (gd_cf _) | with_reducible refine GpY.tr ?_ (gd_wt _) | with_reducible refine GpY.tr ?_ (gd_xp _) | with_reducible refine GpY.tr ?_ (gd_acc _) | with_reducible refine GpY.tr ?_ (gd_rai _) | with_reducible refine GpY.tr ?_ (gd_e _) | with_reducible refine GpY.tr ?_ (gd_o _) | with_reducible refine GpY.tr ?_ (gd_c _) | with_reducible refine GpY.tr ?_ (gd_op _) | with_reducible refine GpY.tr ?_ (gd_clp gd_e _ _) | with_reducible refine GpY.tr ?_ (gd_tl _) | with_reducible refine GpY.tr ?_ (gd_sf _ _ _) | with_reducible refine GpY.tr ?_ (gd_cl _) | with_reducible refine GpY.tr ?_ (gd_pc _) | with_reducible refine GpY.tr ?_ (gd_st _) | with_reducible refine GpY.tr ?_ (gd_rw _) | with_reducible refine GpY.tr ?_ (gd_typ _) | with_reducible refine GpY.tr ?_ (gd_dcl _) | with_reducible refine GpY.tr ?_ (gd_va2 _) | with_reducible refine GpY.tr ?_ (gd_cnd _) | with_reducible refine GpY.tr ?_ (gd_tr1 _) | with_reducible refine GpY.tr ?_ (gd_tr2 (fun _ => gd_rw) _) | with_reducible refine GpY.tr ?_ (gd_tr3 (fun _ => gd_rw) _) | with_reducible refine GpY.tr ?_ (gd_fo1 _) | with_reducible refine GpY.tr ?_ (gd_fo2 _) | with_reducible refine GpY.tr ?_ (gd_fo3 _) | with_reducible refine GpY.tr ?_ (gd_fex _) | with_reducible refine GpY.tr ?_ (pg_var.1) | with_reducible refine GpY.tr ?_ (pg_cas.1) | with_reducible refine GpY.tr ?_ (gd_bd _) | with_reducible refine GpY.tr ?_ (gd_pal _ _ _) | with_reducible refine GpY.tr ?_ (gd_pa3 _) | with_reducible refine GpY.tr ?_ (gd_par _) | with_reducible refine GpY.tr ?_ (gd_me2 _) | with_reducible refine GpY.tr ?_ (gd_me3 _) | with_reducible refine GpY.tr ?_ (gd_pa2 _) | with_reducible refine GpY.tr ?_ (gd_pa1 _) | with_reducible refine GpY.tr ?_ (gd_met _) | exact GpY.rf))
      · dsimp only [Option.toList, List.cons_append, List.nil_append, Nat.beq, gI_sI, gI_sL, gI_sA, gI_sM, gL_sI, gL_sL, gL_sA, gL_sM, aI_sI, aI_sL, aI_sA, aI_sM, aL_sI, aL_sL, aL_sA, aL_sM]
        have hc44 : ¬ (50 ≤ codY z.1 ∧ codY z.1 ≤ 54) := fun q => hk44 (he44.mpr q)
        refine ⟨fun h84 => absurd h84 (by decide), fun h84 => ?_⟩
        clear h84
        refine hB _ _ _ _ _ (fun m85 hm85 => ?_)
        dsimp only [ugo, uwp, ust, uct, rfd, Bmethod, Nat.beq, lv_args, rlk, rs1, rs2, rdl, rky, rcd, rno, rsw, Value.category, List.filter, List.take, List.drop, List.reverse, List.reverseAux, List.cons_append, List.nil_append, Option.toList, Int.toNat, Int.reduceToNat, if_pos, if_neg, reduceIte, ↓reduceIte, Nat.reduceAdd, Nat.reduceEqDiff, Nat.reduceBEq, beq_self_eq_true, Bool.not_true, Bool.not_false, Bool.and_true, Bool.and_false, Bool.true_and, Bool.false_and, gI_sI, gI_sL, gI_sA, gI_sM, gL_sI, gL_sL, gL_sA, gL_sM, aI_sI, aI_sL, aI_sA, aI_sM, aL_sI, aL_sL, aL_sA, aL_sM, Bmethod_0, Bmethod_8, Bmethod_19, Bmethod_24, Bmethod_41, Bmethod_43, Bmethod_56, Bmethod_61, Bmethod_70, Bmethod_80, Bmethod_141, Bmethod_150, Bmethod_152, Bmethod_161, Bmethod_165, Bmethod_166, Bmethod_168, Bmethod_173, Bmethod_182, Bmethod_184, Bmethod_197, Bmethod_204, Bmethod_206, Bmethod_215, Bmethod_217, Bmethod_246, Bmethod_257, Bmethod_259, Bmethod_266, Bmethod_273, Bmethod_275, oi_0, oi_1, oi_10, oi_123, oi_3, oi_40, oi_41, oi_44, oi_5, oi_m2]; try dsimp only
        refine ⟨trivial, fun w86 τ86 hq86 => ?_⟩
        obtain ⟨hq86, hL86⟩ := hq86
        have hq86 := hq86 z.1 hM.1
        obtain ⟨rfl, hF86⟩ := hq86
        dsimp only [Option.toList, List.cons_append, List.nil_append, Nat.beq, gI_sI, gI_sL, gI_sA, gI_sM, gL_sI, gL_sL, gL_sA, gL_sM, aI_sI, aI_sL, aI_sA, aI_sM, aL_sI, aL_sL, aL_sA, aL_sM]
        unfold Qv_methodZ
        try dsimp only
        rw [lf_me]
        unfold mthY
        refine Or.inl ⟨rfl, FlR.g hF86 ?_⟩
        rw [me1_n (by omega)]
        exact (by repeat (first | with_reducible exact GpY.rf | with_reducible refine GpY.tr ?_ (gd_fo _) | with_reducible refine GpY.tr ?_ (gd_ef _) | with_reducible refine GpY.tr ?_ (gd_cf _) | with_reducible refine GpY.tr ?_ (gd_wt _) | with_reducible refine GpY.tr ?_ (gd_xp _) | with_reducible refine GpY.tr ?_ (gd_acc _) | with_reducible refine GpY.tr ?_ (gd_rai _) | with_reducible refine GpY.tr ?_ (gd_e _) | with_reducible refine GpY.tr ?_ (gd_o _) | with_reducible refine GpY.tr ?_ (gd_c _) | with_reducible refine GpY.tr ?_ (gd_op _) | with_reducible refine GpY.tr ?_ (gd_clp gd_e _ _) | with_reducible refine GpY.tr ?_ (gd_tl _) | with_reducible refine GpY.tr ?_ (gd_sf _ _ _) | with_reducible refine GpY.tr ?_ (gd_cl _) | with_reducible refine GpY.tr ?_ (gd_pc _) | with_reducible refine GpY.tr ?_ (gd_st _) | with_reducible refine GpY.tr ?_ (gd_rw _) | with_reducible refine GpY.tr ?_ (gd_typ _) | with_reducible refine GpY.tr ?_ (gd_dcl _) | with_reducible refine GpY.tr ?_ (gd_va2 _) | with_reducible refine GpY.tr ?_ (gd_cnd _) | with_reducible refine GpY.tr ?_ (gd_tr1 _) | with_reducible refine GpY.tr ?_ (gd_tr2 (fun _ => gd_rw) _) | with_reducible refine GpY.tr ?_ (gd_tr3 (fun _ => gd_rw) _) | with_reducible refine GpY.tr ?_ (gd_fo1 _) | with_reducible refine GpY.tr ?_ (gd_fo2 _) | with_reducible refine GpY.tr ?_ (gd_fo3 _) | with_reducible refine GpY.tr ?_ (gd_fex _) | with_reducible refine GpY.tr ?_ (pg_var.1) | with_reducible refine GpY.tr ?_ (pg_cas.1) | with_reducible refine GpY.tr ?_ (gd_bd _) | with_reducible refine GpY.tr ?_ (gd_pal _ _ _) | with_reducible refine GpY.tr ?_ (gd_pa3 _) | with_reducible refine GpY.tr ?_ (gd_par _) | with_reducible refine GpY.tr ?_ (gd_me2 _) | with_reducible refine GpY.tr ?_ (gd_me3 _) | with_reducible refine GpY.tr ?_ (gd_pa2 _) | with_reducible refine GpY.tr ?_ (gd_pa1 _) | with_reducible refine GpY.tr ?_ (gd_met _) | exact GpY.rf))
  next => exact hP.elim
theorem w_methodZ : UMet 38 (fun _ _ => True) Qw_methodZ := fun A1 σ _ w τ h N z hP => v_methodZ N z A1 σ hP w τ h
