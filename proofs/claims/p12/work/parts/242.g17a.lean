theorem gd_ct {k : Int} {F : List Int} {n : Nat} : GdY (ctY k F n) := by
  intro s
  unfold ctY
  split
  · exact (((gd_tr1 s).tr (gd_tr2 (fun _ => gd_rw) _)).tr (gd_tr3 (fun _ => gd_rw) _)).tr (gd_sf _ _ _)
  split
  · exact (gd_tr3 (fun _ => gd_rw) s).tr (gd_sf _ _ _)
  · exact gd_sf _ _ _
theorem ne_tail {σ : RS} {s : SpC} {n e : Nat} {F : List Int} {T : Int32} (h : SRx e σ s n) (p : frR σ = T.toInt :: F) (q : ¬ T = 0) : F ≠ [] := by
  have w := h.2.2.1.1
  rw [p] at w
  exact fun z => q (Int32.toInt_inj.mp (w.2.1.mpr z))
theorem nil_tail {σ : RS} {s : SpC} {n e : Nat} {F : List Int} {T : Int32} (h : SRx e σ s n) (p : frR σ = T.toInt :: F) (q : T = 0) : F = [] := by
  have w := h.2.2.1.1
  rw [p] at w
  exact w.2.1.mp (by rw [q]; rfl)
theorem th_top {σ : RS} {s : SpC} {n e : Nat} (h : SRx e σ s n) (h0 : 0 < gI σ 62) : nT (aI σ 64 (gI σ 62 - 1).toNatClampNeg) < nT (gI σ 49) := (h.2.2.2.1 (nT (gI σ 62 - 1)) (by have := nT_sub h0; omega)).1
theorem Fg_not {σ : RS} {T : Int32} (h0 : 0 < gI σ 62) (hT : aI σ 63 (gI σ 62 - 1).toNatClampNeg = T) (q : ¬ T = 8) : FgR σ 0 := by
  refine ⟨Or.inl rfl, fun i hi z => ?_⟩
  have e := nT_sub h0
  obtain rfl : i = nT (gI σ 62 - 1) := by omega
  exact absurd (hT.symm.trans z) q
theorem Fg_yes {σ : RS} {b : Int} (h : FgR σ b) (h0 : 0 < gI σ 62) (h8 : aI σ 63 (gI σ 62 - 1).toNatClampNeg = 8) (g : gR σ (aI σ 64 (gI σ 62 - 1).toNatClampNeg)) : b = 0 ∧ FgR σ 0 := by
  have e := nT_sub h0
  refine ⟨(h.2 (nT (gI σ 62 - 1)) (by omega) h8).mpr g, Or.inl rfl, fun i hi z => ?_⟩
  obtain rfl : i = nT (gI σ 62 - 1) := by omega
  exact ⟨fun _ => g, fun _ => rfl⟩
theorem Fg_no {σ : RS} {b : Int} (h : FgR σ b) (h0 : 0 < gI σ 62) (h8 : aI σ 63 (gI σ 62 - 1).toNatClampNeg = 8) (g : ¬ gR σ (aI σ 64 (gI σ 62 - 1).toNatClampNeg)) : b = 1 := by
  have e := nT_sub h0
  have q := (h.2 (nT (gI σ 62 - 1)) (by omega) h8)
  rcases h.1 with rfl | rfl
  · exact absurd (q.mp rfl) g
  · rfl
def Pv_closeTry (s : SpC) (n : Nat) : UP1 := fun A1 σ => match A1 with
  | [.int sort, .int k, .int step] => SR σ s n ∧ 0 < gI σ 62 ∧ aI σ 63 (gI σ 62 - 1).toNatClampNeg = sort ∧ (sort = 9 ∨ sort = 10 ∨ sort = 11) ∧ nT k < nT (gI σ 49)
  | _ => False
def Qv_closeTry (s : SpC) (n : Nat) : UQ1 := fun A1 σ w τ => match A1 with
  | [.int sort, .int k, .int step] => StQ τ (ctY sort.toInt (frR σ).tail n s) w
  | _ => False
def Qw_closeTry : UQ1 := fun A1 σ w τ => ∀ (s : SpC) (n : Nat), Pv_closeTry s n A1 σ → Qv_closeTry s n A1 σ w τ
set_option maxRecDepth 100000 in
set_option maxHeartbeats 4000000 in
theorem v_closeTry (s : SpC) (n : Nat) : UMet 68 (Pv_closeTry s n) (Qv_closeTry s n) := by
  refine UMet.by BcloseTry [(13, (fun _ _ => True), Qw_cant), (20, Pu_emit, Qu_emit), (69, (fun _ _ => True), Qw_finished), (15, (fun _ _ => True), Qw_isWord), (36, (fun _ _ => True), Qw_open), (17, (fun _ _ => True), Qw_take), (40, (fun _ _ => True), Qw_variable), (18, (fun _ _ => True), Qw_want)] rfl (ucc w_cant (ucc u_emit (ucc w_finished (ucc w_isWord (ucc w_open (ucc w_take (ucc w_variable (ucc w_want uc0)))))))) ?_
  intro A1 σ hP K hB hW
  unfold Pv_closeTry at hP
  split at hP
  next sort k step =>
    obtain ⟨hR, hop, hT, hs, hk⟩ := hP
    have hnn := hR.2.1
    have hFq := frR_pop hop
    rw [hT] at hFq
    have hnet := ne_tail hR hFq (by lia)
    have hFt : (frR σ).tail = frR (sI σ 62 (gI σ 62 - 1)) := by rw [hFq]; rfl
    have hl1 : 1 ≤ (frR σ).length := by rw [hFq]; exact Nat.succ_pos _
    have hm6 := hR.2.2.1.2.2.resolve_left (by rw [hFq]; exact List.cons_ne_nil _ _)
    intro n0_
    refine hB _ _ _ _ _ (fun m1 hm1 => ?_)
    dsimp only [ugo, uwp, ust, uct, rfd, BcloseTry, Nat.beq, lv_args, rlk, rs1, rs2, rdl, rky, rcd, rno, rsw, Value.category, List.filter, List.take, List.drop, List.reverse, List.reverseAux, List.cons_append, List.nil_append, Option.toList, Int.toNat, Int.reduceToNat, if_pos, if_neg, reduceIte, ↓reduceIte, Nat.reduceAdd, Nat.reduceEqDiff, Nat.reduceBEq, beq_self_eq_true, Bool.not_true, Bool.not_false, Bool.and_true, Bool.and_false, Bool.true_and, Bool.false_and, gI_sI, gI_sL, gI_sA, gI_sM, gL_sI, gL_sL, gL_sA, gL_sM, aI_sI, aI_sL, aI_sA, aI_sM, aL_sI, aL_sL, aL_sA, aL_sM, BcloseTry_0, BcloseTry_26, BcloseTry_35, BcloseTry_59, BcloseTry_68, BcloseTry_70, BcloseTry_83, BcloseTry_88, BcloseTry_116, BcloseTry_125, BcloseTry_127, BcloseTry_136, BcloseTry_147, BcloseTry_151, BcloseTry_152, BcloseTry_153, BcloseTry_159, BcloseTry_168, BcloseTry_192, BcloseTry_194, BcloseTry_203, BcloseTry_214, BcloseTry_218, BcloseTry_219, BcloseTry_220, BcloseTry_226, BcloseTry_231, oi_0, oi_1, oi_10, oi_1000, oi_11, oi_123, oi_19, oi_20, oi_3, oi_40, oi_41, oi_45, oi_51, oi_52, oi_53, oi_9, Pu_emit]; try dsimp only
    obtain ⟨hRp, hgp⟩ := SR.pop hR hop
    refine ⟨fun h2 => ?_, fun h2 => ?_⟩
    · refine hB _ _ _ _ _ (fun m3 hm3 => ?_)
      dsimp only [ugo, uwp, ust, uct, rfd, BcloseTry, Nat.beq, lv_args, rlk, rs1, rs2, rdl, rky, rcd, rno, rsw, Value.category, List.filter, List.take, List.drop, List.reverse, List.reverseAux, List.cons_append, List.nil_append, Option.toList, Int.toNat, Int.reduceToNat, if_pos, if_neg, reduceIte, ↓reduceIte, Nat.reduceAdd, Nat.reduceEqDiff, Nat.reduceBEq, beq_self_eq_true, Bool.not_true, Bool.not_false, Bool.and_true, Bool.and_false, Bool.true_and, Bool.false_and, gI_sI, gI_sL, gI_sA, gI_sM, gL_sI, gL_sL, gL_sA, gL_sM, aI_sI, aI_sL, aI_sA, aI_sM, aL_sI, aL_sL, aL_sA, aL_sM, BcloseTry_0, BcloseTry_26, BcloseTry_35, BcloseTry_59, BcloseTry_68, BcloseTry_70, BcloseTry_83, BcloseTry_88, BcloseTry_116, BcloseTry_125, BcloseTry_127, BcloseTry_136, BcloseTry_147, BcloseTry_151, BcloseTry_152, BcloseTry_153, BcloseTry_159, BcloseTry_168, BcloseTry_192, BcloseTry_194, BcloseTry_203, BcloseTry_214, BcloseTry_218, BcloseTry_219, BcloseTry_220, BcloseTry_226, BcloseTry_231, oi_0, oi_1, oi_10, oi_1000, oi_11, oi_123, oi_19, oi_20, oi_3, oi_40, oi_41, oi_45, oi_51, oi_52, oi_53, oi_9, Pu_emit]; try dsimp only
      refine ⟨fun h4 => ?_, fun h4 => ?_⟩
      · refine hB _ _ _ _ _ (fun m5 hm5 => ?_)
        dsimp only [ugo, uwp, ust, uct, rfd, BcloseTry, Nat.beq, lv_args, rlk, rs1, rs2, rdl, rky, rcd, rno, rsw, Value.category, List.filter, List.take, List.drop, List.reverse, List.reverseAux, List.cons_append, List.nil_append, Option.toList, Int.toNat, Int.reduceToNat, if_pos, if_neg, reduceIte, ↓reduceIte, Nat.reduceAdd, Nat.reduceEqDiff, Nat.reduceBEq, beq_self_eq_true, Bool.not_true, Bool.not_false, Bool.and_true, Bool.and_false, Bool.true_and, Bool.false_and, gI_sI, gI_sL, gI_sA, gI_sM, gL_sI, gL_sL, gL_sA, gL_sM, aI_sI, aI_sL, aI_sA, aI_sM, aL_sI, aL_sL, aL_sA, aL_sM, BcloseTry_0, BcloseTry_26, BcloseTry_35, BcloseTry_59, BcloseTry_68, BcloseTry_70, BcloseTry_83, BcloseTry_88, BcloseTry_116, BcloseTry_125, BcloseTry_127, BcloseTry_136, BcloseTry_147, BcloseTry_151, BcloseTry_152, BcloseTry_153, BcloseTry_159, BcloseTry_168, BcloseTry_192, BcloseTry_194, BcloseTry_203, BcloseTry_214, BcloseTry_218, BcloseTry_219, BcloseTry_220, BcloseTry_226, BcloseTry_231, oi_0, oi_1, oi_10, oi_1000, oi_11, oi_123, oi_19, oi_20, oi_3, oi_40, oi_41, oi_45, oi_51, oi_52, oi_53, oi_9, Pu_emit]; try dsimp only
        refine ⟨fun h6 => ?_, fun h6 => ?_⟩
        · refine hB _ _ _ _ _ (fun m7 hm7 => ?_)
          dsimp only [ugo, uwp, ust, uct, rfd, BcloseTry, Nat.beq, lv_args, rlk, rs1, rs2, rdl, rky, rcd, rno, rsw, Value.category, List.filter, List.take, List.drop, List.reverse, List.reverseAux, List.cons_append, List.nil_append, Option.toList, Int.toNat, Int.reduceToNat, if_pos, if_neg, reduceIte, ↓reduceIte, Nat.reduceAdd, Nat.reduceEqDiff, Nat.reduceBEq, beq_self_eq_true, Bool.not_true, Bool.not_false, Bool.and_true, Bool.and_false, Bool.true_and, Bool.false_and, gI_sI, gI_sL, gI_sA, gI_sM, gL_sI, gL_sL, gL_sA, gL_sM, aI_sI, aI_sL, aI_sA, aI_sM, aL_sI, aL_sL, aL_sA, aL_sM, BcloseTry_0, BcloseTry_26, BcloseTry_35, BcloseTry_59, BcloseTry_68, BcloseTry_70, BcloseTry_83, BcloseTry_88, BcloseTry_116, BcloseTry_125, BcloseTry_127, BcloseTry_136, BcloseTry_147, BcloseTry_151, BcloseTry_152, BcloseTry_153, BcloseTry_159, BcloseTry_168, BcloseTry_192, BcloseTry_194, BcloseTry_203, BcloseTry_214, BcloseTry_218, BcloseTry_219, BcloseTry_220, BcloseTry_226, BcloseTry_231, oi_0, oi_1, oi_10, oi_1000, oi_11, oi_123, oi_19, oi_20, oi_3, oi_40, oi_41, oi_45, oi_51, oi_52, oi_53, oi_9, Pu_emit]; try dsimp only
          intro p8
          refine ⟨trivial, fun w9 τ9 hq9 => ?_⟩
          obtain ⟨rfl, hE9⟩ := hq9
          have hR9 := SR.em (e_ := 0) (s := s) (n := (n + 1)) (by repeat (first | exact hRp | refine SR.i ?_ rfl | refine SR.a ?_ rfl)) hE9
          have hg9 := FgR.em (e_ := 0) (by repeat (first | exact hgp | refine FgR.i ?_ rfl | refine FgR.a ?_ rfl)) (s := s) (n := (n + 1)) (by repeat (first | exact hRp | refine SR.i ?_ rfl | refine SR.a ?_ rfl)) hE9
          have hf9 := frR_em hE9
          dsimp only [Option.toList, List.cons_append, List.nil_append, Nat.beq, gI_sI, gI_sL, gI_sA, gI_sM, gL_sI, gL_sL, gL_sA, gL_sM, aI_sI, aI_sL, aI_sA, aI_sM, aL_sI, aL_sL, aL_sA, aL_sM]
          have k6_9 : 0 < gI τ9 36 := by rw [hE9.1 36 (by decide)]; exact hm6
          have k9_9 : nT k < nT (gI τ9 49) := by rw [hE9.1 49 (by decide)]; exact hk
          intro p10
          intro p11
          refine ⟨trivial, fun w12 τ12 hq12 => ?_⟩
          obtain ⟨rfl, hE12⟩ := hq12
          have hR12 := SR.em (e_ := 0) (s := s) (n := (n + 1)) (by repeat (first | exact hR9 | refine SR.i ?_ rfl | refine SR.a ?_ rfl)) hE12
          have hg12 := FgR.em (e_ := 0) (by repeat (first | exact hg9 | refine FgR.i ?_ rfl | refine FgR.a ?_ rfl)) (s := s) (n := (n + 1)) (by repeat (first | exact hR9 | refine SR.i ?_ rfl | refine SR.a ?_ rfl)) hE12
          have hf12 := frR_em hE12
          dsimp only [Option.toList, List.cons_append, List.nil_append, Nat.beq, gI_sI, gI_sL, gI_sA, gI_sM, gL_sI, gL_sL, gL_sA, gL_sM, aI_sI, aI_sL, aI_sA, aI_sM, aL_sI, aL_sL, aL_sA, aL_sM]
          have k6_12 : 0 < gI τ12 36 := by rw [hE12.1 36 (by decide)]; exact k6_9
          have k9_12 : nT k < nT (gI τ12 49) := by rw [hE12.1 49 (by decide)]; exact k9_9
          refine ⟨trivial, fun w13 τ13 hq13 => ?_⟩
          have hq13 : StQ τ13 _ w13 := hq13 s (n + 1) ⟨(by repeat (first | exact hR12 | refine SR.i ?_ rfl | refine SR.a ?_ rfl)), (by repeat (first | exact hg12 | refine FgR.i ?_ rfl | refine FgR.a ?_ rfl))⟩
          have hv13 : w13 = some (.int 0) ∨ w13 = some (.int 1) := hq13.imp (fun q => q.1) (fun q => q.1)
          rcases hv13 with rfl | rfl
          · dsimp only [Option.toList, List.cons_append, List.nil_append, Nat.beq, gI_sI, gI_sL, gI_sA, gI_sM, gL_sI, gL_sL, gL_sA, gL_sM, aI_sI, aI_sL, aI_sA, aI_sM, aL_sI, aL_sL, aL_sA, aL_sM]
            unfold Qv_closeTry
            try dsimp only
            rw [hFt, ct_11 (by lia)]
            have hq_ := hq13
            (simp only [frR_i, frR_a, ne_eq, Nat.reduceEqDiff, not_false_eq_true, hf12, hf9] at hq_)
            exact hq_
          · dsimp only [Option.toList, List.cons_append, List.nil_append, Nat.beq, gI_sI, gI_sL, gI_sA, gI_sM, gL_sI, gL_sL, gL_sA, gL_sM, aI_sI, aI_sL, aI_sA, aI_sM, aL_sI, aL_sL, aL_sA, aL_sM]
            unfold Qv_closeTry
            try dsimp only
            rw [hFt, ct_11 (by lia)]
            have hq_ := hq13
            (simp only [frR_i, frR_a, ne_eq, Nat.reduceEqDiff, not_false_eq_true, hf12, hf9] at hq_)
            exact hq_
        · exfalso; lia
      · refine hB _ _ _ _ _ (fun m14 hm14 => ?_)
        dsimp only [ugo, uwp, ust, uct, rfd, BcloseTry, Nat.beq, lv_args, rlk, rs1, rs2, rdl, rky, rcd, rno, rsw, Value.category, List.filter, List.take, List.drop, List.reverse, List.reverseAux, List.cons_append, List.nil_append, Option.toList, Int.toNat, Int.reduceToNat, if_pos, if_neg, reduceIte, ↓reduceIte, Nat.reduceAdd, Nat.reduceEqDiff, Nat.reduceBEq, beq_self_eq_true, Bool.not_true, Bool.not_false, Bool.and_true, Bool.and_false, Bool.true_and, Bool.false_and, gI_sI, gI_sL, gI_sA, gI_sM, gL_sI, gL_sL, gL_sA, gL_sM, aI_sI, aI_sL, aI_sA, aI_sM, aL_sI, aL_sL, aL_sA, aL_sM, BcloseTry_0, BcloseTry_26, BcloseTry_35, BcloseTry_59, BcloseTry_68, BcloseTry_70, BcloseTry_83, BcloseTry_88, BcloseTry_116, BcloseTry_125, BcloseTry_127, BcloseTry_136, BcloseTry_147, BcloseTry_151, BcloseTry_152, BcloseTry_153, BcloseTry_159, BcloseTry_168, BcloseTry_192, BcloseTry_194, BcloseTry_203, BcloseTry_214, BcloseTry_218, BcloseTry_219, BcloseTry_220, BcloseTry_226, BcloseTry_231, oi_0, oi_1, oi_10, oi_1000, oi_11, oi_123, oi_19, oi_20, oi_3, oi_40, oi_41, oi_45, oi_51, oi_52, oi_53, oi_9, Pu_emit]; try dsimp only
        refine ⟨trivial, fun w15 τ15 hq15 => ?_⟩
        obtain ⟨rfl, b15, rfl, hb15⟩ := hq15 trivial
        have he15 := (XrR.s (SR.x (e_ := 0) (by repeat (first | exact hRp | refine SR.i ?_ rfl | refine SR.a ?_ rfl)))).wd (x := 20) (by decide)
        rcases hb15 with ⟨rfl, hk15⟩ | ⟨rfl, hk15⟩
        · dsimp only [Option.toList, List.cons_append, List.nil_append, Nat.beq, gI_sI, gI_sL, gI_sA, gI_sM, gL_sI, gL_sL, gL_sA, gL_sM, aI_sI, aI_sL, aI_sA, aI_sM, aL_sI, aL_sL, aL_sA, aL_sM]
          have hc15 : codY s = 70 := he15.mp hk15
          refine ⟨fun h16 => absurd h16 (by decide), fun h16 => ?_⟩
          clear h16
          refine hB _ _ _ _ _ (fun m17 hm17 => ?_)
          dsimp only [ugo, uwp, ust, uct, rfd, BcloseTry, Nat.beq, lv_args, rlk, rs1, rs2, rdl, rky, rcd, rno, rsw, Value.category, List.filter, List.take, List.drop, List.reverse, List.reverseAux, List.cons_append, List.nil_append, Option.toList, Int.toNat, Int.reduceToNat, if_pos, if_neg, reduceIte, ↓reduceIte, Nat.reduceAdd, Nat.reduceEqDiff, Nat.reduceBEq, beq_self_eq_true, Bool.not_true, Bool.not_false, Bool.and_true, Bool.and_false, Bool.true_and, Bool.false_and, gI_sI, gI_sL, gI_sA, gI_sM, gL_sI, gL_sL, gL_sA, gL_sM, aI_sI, aI_sL, aI_sA, aI_sM, aL_sI, aL_sL, aL_sA, aL_sM, BcloseTry_0, BcloseTry_26, BcloseTry_35, BcloseTry_59, BcloseTry_68, BcloseTry_70, BcloseTry_83, BcloseTry_88, BcloseTry_116, BcloseTry_125, BcloseTry_127, BcloseTry_136, BcloseTry_147, BcloseTry_151, BcloseTry_152, BcloseTry_153, BcloseTry_159, BcloseTry_168, BcloseTry_192, BcloseTry_194, BcloseTry_203, BcloseTry_214, BcloseTry_218, BcloseTry_219, BcloseTry_220, BcloseTry_226, BcloseTry_231, oi_0, oi_1, oi_10, oi_1000, oi_11, oi_123, oi_19, oi_20, oi_3, oi_40, oi_41, oi_45, oi_51, oi_52, oi_53, oi_9, Pu_emit]; try dsimp only
          have hcf : codY s = 70 := hc15
          refine ⟨trivial, fun w18 τ18 hq18 => ?_⟩
          obtain ⟨rfl, hE18⟩ := hq18
          have hR18 := SR.em (e_ := 0) (s := s) (n := (n + 1)) (by repeat (first | exact hRp | refine SR.i ?_ rfl | refine SR.a ?_ rfl)) hE18
          have hg18 := FgR.em (e_ := 0) (by repeat (first | exact hgp | refine FgR.i ?_ rfl | refine FgR.a ?_ rfl)) (s := s) (n := (n + 1)) (by repeat (first | exact hRp | refine SR.i ?_ rfl | refine SR.a ?_ rfl)) hE18
          have hf18 := frR_em hE18
          dsimp only [Option.toList, List.cons_append, List.nil_append, Nat.beq, gI_sI, gI_sL, gI_sA, gI_sM, gL_sI, gL_sL, gL_sA, gL_sM, aI_sI, aI_sL, aI_sA, aI_sM, aL_sI, aL_sL, aL_sA, aL_sM]
          have k6_18 : 0 < gI τ18 36 := by rw [hE18.1 36 (by decide)]; exact hm6
          have k9_18 : nT k < nT (gI τ18 49) := by rw [hE18.1 49 (by decide)]; exact hk
          intro p19
          refine ⟨trivial, fun w20 τ20 hq20 => ?_⟩
          have hq20 := hq20 _ s (n + 1) ⟨(SR.x (e_ := 0) (by repeat (first | exact hR18 | refine SR.i ?_ rfl | refine SR.a ?_ rfl))), by omega, by omega⟩
          rcases hq20 with ⟨rfl, hF20⟩ | ⟨rfl, hX20, hz20, hS20⟩
          · dsimp only [Option.toList, List.cons_append, List.nil_append, Nat.beq, gI_sI, gI_sL, gI_sA, gI_sM, gL_sI, gL_sL, gL_sA, gL_sM, aI_sI, aI_sL, aI_sA, aI_sM, aL_sI, aL_sL, aL_sA, aL_sM]
            refine ⟨fun h21 => absurd h21 (by decide), fun h21 => ?_⟩
            clear h21
            refine hB _ _ _ _ _ (fun m22 hm22 => ?_)
            dsimp only [ugo, uwp, ust, uct, rfd, BcloseTry, Nat.beq, lv_args, rlk, rs1, rs2, rdl, rky, rcd, rno, rsw, Value.category, List.filter, List.take, List.drop, List.reverse, List.reverseAux, List.cons_append, List.nil_append, Option.toList, Int.toNat, Int.reduceToNat, if_pos, if_neg, reduceIte, ↓reduceIte, Nat.reduceAdd, Nat.reduceEqDiff, Nat.reduceBEq, beq_self_eq_true, Bool.not_true, Bool.not_false, Bool.and_true, Bool.and_false, Bool.true_and, Bool.false_and, gI_sI, gI_sL, gI_sA, gI_sM, gL_sI, gL_sL, gL_sA, gL_sM, aI_sI, aI_sL, aI_sA, aI_sM, aL_sI, aL_sL, aL_sA, aL_sM, BcloseTry_0, BcloseTry_26, BcloseTry_35, BcloseTry_59, BcloseTry_68, BcloseTry_70, BcloseTry_83, BcloseTry_88, BcloseTry_116, BcloseTry_125, BcloseTry_127, BcloseTry_136, BcloseTry_147, BcloseTry_151, BcloseTry_152, BcloseTry_153, BcloseTry_159, BcloseTry_168, BcloseTry_192, BcloseTry_194, BcloseTry_203, BcloseTry_214, BcloseTry_218, BcloseTry_219, BcloseTry_220, BcloseTry_226, BcloseTry_231, oi_0, oi_1, oi_10, oi_1000, oi_11, oi_123, oi_19, oi_20, oi_3, oi_40, oi_41, oi_45, oi_51, oi_52, oi_53, oi_9, Pu_emit]; try dsimp only
            unfold Qv_closeTry
            try dsimp only
            rw [hFt, ct_10 (by lia), tr3_y hcf]
            refine StQ.f hF20 ?_
            exact (by repeat (first | with_reducible exact GpY.rf | with_reducible refine GpY.tr ?_ (gd_fo _) | with_reducible refine GpY.tr ?_ (gd_ef _) | with_reducible refine GpY.tr ?_ (gd_cf _) | with_reducible refine GpY.tr ?_ (gd_wt _) | with_reducible refine GpY.tr ?_ (gd_xp _) | with_reducible refine GpY.tr ?_ (gd_acc _) | with_reducible refine GpY.tr ?_ (gd_rai _) | with_reducible refine GpY.tr ?_ (gd_e _) | with_reducible refine GpY.tr ?_ (gd_o _) | with_reducible refine GpY.tr ?_ (gd_c _) | with_reducible refine GpY.tr ?_ (gd_op _) | with_reducible refine GpY.tr ?_ (gd_clp gd_e _ _) | with_reducible refine GpY.tr ?_ (gd_tl _) | with_reducible refine GpY.tr ?_ (gd_sf _ _ _) | with_reducible refine GpY.tr ?_ (gd_cl _) | with_reducible refine GpY.tr ?_ (gd_pc _) | with_reducible refine GpY.tr ?_ (gd_st _) | with_reducible refine GpY.tr ?_ (gd_rw _) | with_reducible refine GpY.tr ?_ (gd_typ _) | with_reducible refine GpY.tr ?_ (gd_dcl _) | with_reducible refine GpY.tr ?_ (gd_va2 _) | with_reducible refine GpY.tr ?_ (gd_cnd _) | with_reducible refine GpY.tr ?_ (gd_tr1 _) | with_reducible refine GpY.tr ?_ (gd_tr2 (fun _ => gd_rw) _) | with_reducible refine GpY.tr ?_ (gd_tr3 (fun _ => gd_rw) _) | with_reducible refine GpY.tr ?_ (gd_fo1 _) | with_reducible refine GpY.tr ?_ (gd_fo2 _) | with_reducible refine GpY.tr ?_ (gd_fo3 _) | with_reducible refine GpY.tr ?_ (gd_fex _) | with_reducible refine GpY.tr ?_ (pg_var.1) | with_reducible refine GpY.tr ?_ (pg_cas.1) | exact GpY.rf))
          · dsimp only [Option.toList, List.cons_append, List.nil_append, Nat.beq, gI_sI, gI_sL, gI_sA, gI_sM, gL_sI, gL_sL, gL_sA, gL_sM, aI_sI, aI_sL, aI_sA, aI_sM, aL_sI, aL_sL, aL_sA, aL_sM]
            have hR20 := SR.kr (e_ := 0) (by repeat (first | exact hR18 | refine SR.i ?_ rfl | refine SR.a ?_ rfl)) hX20 acc2
            have hg20 := FgR.kr (e_ := 0) (s := s) (n := (n + 1)) (by repeat (first | exact hg18 | refine FgR.i ?_ rfl | refine FgR.a ?_ rfl)) (by repeat (first | exact hR18 | refine SR.i ?_ rfl | refine SR.a ?_ rfl)) hX20
            have hf20 := frR_kr hX20
            have k6_20 : 0 < gI τ20 36 := by rw [hX20.2.2.1.1 36 rfl]; exact k6_18
            have k9_20 : nT k < nT (gI τ20 49) := by rw [hX20.2.2.1.1 49 rfl]; exact k9_18
            refine ⟨fun h23 => ?_, fun h23 => absurd h23 (by decide)⟩
            clear h23
            refine hB _ _ _ _ _ (fun m24 hm24 => ?_)
            dsimp only [ugo, uwp, ust, uct, rfd, BcloseTry, Nat.beq, lv_args, rlk, rs1, rs2, rdl, rky, rcd, rno, rsw, Value.category, List.filter, List.take, List.drop, List.reverse, List.reverseAux, List.cons_append, List.nil_append, Option.toList, Int.toNat, Int.reduceToNat, if_pos, if_neg, reduceIte, ↓reduceIte, Nat.reduceAdd, Nat.reduceEqDiff, Nat.reduceBEq, beq_self_eq_true, Bool.not_true, Bool.not_false, Bool.and_true, Bool.and_false, Bool.true_and, Bool.false_and, gI_sI, gI_sL, gI_sA, gI_sM, gL_sI, gL_sL, gL_sA, gL_sM, aI_sI, aI_sL, aI_sA, aI_sM, aL_sI, aL_sL, aL_sA, aL_sM, BcloseTry_0, BcloseTry_26, BcloseTry_35, BcloseTry_59, BcloseTry_68, BcloseTry_70, BcloseTry_83, BcloseTry_88, BcloseTry_116, BcloseTry_125, BcloseTry_127, BcloseTry_136, BcloseTry_147, BcloseTry_151, BcloseTry_152, BcloseTry_153, BcloseTry_159, BcloseTry_168, BcloseTry_192, BcloseTry_194, BcloseTry_203, BcloseTry_214, BcloseTry_218, BcloseTry_219, BcloseTry_220, BcloseTry_226, BcloseTry_231, oi_0, oi_1, oi_10, oi_1000, oi_11, oi_123, oi_19, oi_20, oi_3, oi_40, oi_41, oi_45, oi_51, oi_52, oi_53, oi_9, Pu_emit]; try dsimp only
            refine ⟨trivial, fun w25 τ25 hq25 => ?_⟩
            have hq25 := hq25 _ (accY s) (n + 1) 2 ⟨(SR.x (e_ := 0) (by repeat (first | exact hR20 | refine SR.i ?_ rfl | refine SR.a ?_ rfl))), by decide⟩
            rcases hq25 with ⟨rfl, hF25⟩ | ⟨rfl, hc25, hX25, hz25, hS25⟩
            · dsimp only [Option.toList, List.cons_append, List.nil_append, Nat.beq, gI_sI, gI_sL, gI_sA, gI_sM, gL_sI, gL_sL, gL_sA, gL_sM, aI_sI, aI_sL, aI_sA, aI_sM, aL_sI, aL_sL, aL_sA, aL_sM]
              refine ⟨fun h26 => ?_, fun h26 => absurd h26 (by decide)⟩
              clear h26
              refine hB _ _ _ _ _ (fun m27 hm27 => ?_)
              dsimp only [ugo, uwp, ust, uct, rfd, BcloseTry, Nat.beq, lv_args, rlk, rs1, rs2, rdl, rky, rcd, rno, rsw, Value.category, List.filter, List.take, List.drop, List.reverse, List.reverseAux, List.cons_append, List.nil_append, Option.toList, Int.toNat, Int.reduceToNat, if_pos, if_neg, reduceIte, ↓reduceIte, Nat.reduceAdd, Nat.reduceEqDiff, Nat.reduceBEq, beq_self_eq_true, Bool.not_true, Bool.not_false, Bool.and_true, Bool.and_false, Bool.true_and, Bool.false_and, gI_sI, gI_sL, gI_sA, gI_sM, gL_sI, gL_sL, gL_sA, gL_sM, aI_sI, aI_sL, aI_sA, aI_sM, aL_sI, aL_sL, aL_sA, aL_sM, BcloseTry_0, BcloseTry_26, BcloseTry_35, BcloseTry_59, BcloseTry_68, BcloseTry_70, BcloseTry_83, BcloseTry_88, BcloseTry_116, BcloseTry_125, BcloseTry_127, BcloseTry_136, BcloseTry_147, BcloseTry_151, BcloseTry_152, BcloseTry_153, BcloseTry_159, BcloseTry_168, BcloseTry_192, BcloseTry_194, BcloseTry_203, BcloseTry_214, BcloseTry_218, BcloseTry_219, BcloseTry_220, BcloseTry_226, BcloseTry_231, oi_0, oi_1, oi_10, oi_1000, oi_11, oi_123, oi_19, oi_20, oi_3, oi_40, oi_41, oi_45, oi_51, oi_52, oi_53, oi_9, Pu_emit]; try dsimp only
              refine hB _ _ _ _ _ (fun m28 hm28 => ?_)
              dsimp only [ugo, uwp, ust, uct, rfd, BcloseTry, Nat.beq, lv_args, rlk, rs1, rs2, rdl, rky, rcd, rno, rsw, Value.category, List.filter, List.take, List.drop, List.reverse, List.reverseAux, List.cons_append, List.nil_append, Option.toList, Int.toNat, Int.reduceToNat, if_pos, if_neg, reduceIte, ↓reduceIte, Nat.reduceAdd, Nat.reduceEqDiff, Nat.reduceBEq, beq_self_eq_true, Bool.not_true, Bool.not_false, Bool.and_true, Bool.and_false, Bool.true_and, Bool.false_and, gI_sI, gI_sL, gI_sA, gI_sM, gL_sI, gL_sL, gL_sA, gL_sM, aI_sI, aI_sL, aI_sA, aI_sM, aL_sI, aL_sL, aL_sA, aL_sM, BcloseTry_0, BcloseTry_26, BcloseTry_35, BcloseTry_59, BcloseTry_68, BcloseTry_70, BcloseTry_83, BcloseTry_88, BcloseTry_116, BcloseTry_125, BcloseTry_127, BcloseTry_136, BcloseTry_147, BcloseTry_151, BcloseTry_152, BcloseTry_153, BcloseTry_159, BcloseTry_168, BcloseTry_192, BcloseTry_194, BcloseTry_203, BcloseTry_214, BcloseTry_218, BcloseTry_219, BcloseTry_220, BcloseTry_226, BcloseTry_231, oi_0, oi_1, oi_10, oi_1000, oi_11, oi_123, oi_19, oi_20, oi_3, oi_40, oi_41, oi_45, oi_51, oi_52, oi_53, oi_9, Pu_emit]; try dsimp only
              unfold Qv_closeTry
              try dsimp only
              rw [hFt, ct_10 (by lia), tr3_y hcf]
              refine StQ.f hF25 ?_
              exact (by repeat (first | with_reducible exact GpY.rf | with_reducible refine GpY.tr ?_ (gd_fo _) | with_reducible refine GpY.tr ?_ (gd_ef _) | with_reducible refine GpY.tr ?_ (gd_cf _) | with_reducible refine GpY.tr ?_ (gd_wt _) | with_reducible refine GpY.tr ?_ (gd_xp _) | with_reducible refine GpY.tr ?_ (gd_acc _) | with_reducible refine GpY.tr ?_ (gd_rai _) | with_reducible refine GpY.tr ?_ (gd_e _) | with_reducible refine GpY.tr ?_ (gd_o _) | with_reducible refine GpY.tr ?_ (gd_c _) | with_reducible refine GpY.tr ?_ (gd_op _) | with_reducible refine GpY.tr ?_ (gd_clp gd_e _ _) | with_reducible refine GpY.tr ?_ (gd_tl _) | with_reducible refine GpY.tr ?_ (gd_sf _ _ _) | with_reducible refine GpY.tr ?_ (gd_cl _) | with_reducible refine GpY.tr ?_ (gd_pc _) | with_reducible refine GpY.tr ?_ (gd_st _) | with_reducible refine GpY.tr ?_ (gd_rw _) | with_reducible refine GpY.tr ?_ (gd_typ _) | with_reducible refine GpY.tr ?_ (gd_dcl _) | with_reducible refine GpY.tr ?_ (gd_va2 _) | with_reducible refine GpY.tr ?_ (gd_cnd _) | with_reducible refine GpY.tr ?_ (gd_tr1 _) | with_reducible refine GpY.tr ?_ (gd_tr2 (fun _ => gd_rw) _) | with_reducible refine GpY.tr ?_ (gd_tr3 (fun _ => gd_rw) _) | with_reducible refine GpY.tr ?_ (gd_fo1 _) | with_reducible refine GpY.tr ?_ (gd_fo2 _) | with_reducible refine GpY.tr ?_ (gd_fo3 _) | with_reducible refine GpY.tr ?_ (gd_fex _) | with_reducible refine GpY.tr ?_ (pg_var.1) | with_reducible refine GpY.tr ?_ (pg_cas.1) | exact GpY.rf))
            · dsimp only [Option.toList, List.cons_append, List.nil_append, Nat.beq, gI_sI, gI_sL, gI_sA, gI_sM, gL_sI, gL_sL, gL_sA, gL_sM, aI_sI, aI_sL, aI_sA, aI_sM, aL_sI, aL_sL, aL_sA, aL_sM]
              have hR25 := SR.kr (e_ := 0) (by repeat (first | exact hR20 | refine SR.i ?_ rfl | refine SR.a ?_ rfl)) hX25 acc2
              have hg25 := FgR.kr (e_ := 0) (s := (accY s)) (n := (n + 1)) (by repeat (first | exact hg20 | refine FgR.i ?_ rfl | refine FgR.a ?_ rfl)) (by repeat (first | exact hR20 | refine SR.i ?_ rfl | refine SR.a ?_ rfl)) hX25
              have hf25 := frR_kr hX25
              have k6_25 : 0 < gI τ25 36 := by rw [hX25.2.2.1.1 36 rfl]; exact k6_20
              have k9_25 : nT k < nT (gI τ25 49) := by rw [hX25.2.2.1.1 49 rfl]; exact k9_20
              refine ⟨fun h29 => absurd h29 (by decide), fun h29 => ?_⟩
              clear h29
              refine hB _ _ _ _ _ (fun m30 hm30 => ?_)
              dsimp only [ugo, uwp, ust, uct, rfd, BcloseTry, Nat.beq, lv_args, rlk, rs1, rs2, rdl, rky, rcd, rno, rsw, Value.category, List.filter, List.take, List.drop, List.reverse, List.reverseAux, List.cons_append, List.nil_append, Option.toList, Int.toNat, Int.reduceToNat, if_pos, if_neg, reduceIte, ↓reduceIte, Nat.reduceAdd, Nat.reduceEqDiff, Nat.reduceBEq, beq_self_eq_true, Bool.not_true, Bool.not_false, Bool.and_true, Bool.and_false, Bool.true_and, Bool.false_and, gI_sI, gI_sL, gI_sA, gI_sM, gL_sI, gL_sL, gL_sA, gL_sM, aI_sI, aI_sL, aI_sA, aI_sM, aL_sI, aL_sL, aL_sA, aL_sM, BcloseTry_0, BcloseTry_26, BcloseTry_35, BcloseTry_59, BcloseTry_68, BcloseTry_70, BcloseTry_83, BcloseTry_88, BcloseTry_116, BcloseTry_125, BcloseTry_127, BcloseTry_136, BcloseTry_147, BcloseTry_151, BcloseTry_152, BcloseTry_153, BcloseTry_159, BcloseTry_168, BcloseTry_192, BcloseTry_194, BcloseTry_203, BcloseTry_214, BcloseTry_218, BcloseTry_219, BcloseTry_220, BcloseTry_226, BcloseTry_231, oi_0, oi_1, oi_10, oi_1000, oi_11, oi_123, oi_19, oi_20, oi_3, oi_40, oi_41, oi_45, oi_51, oi_52, oi_53, oi_9, Pu_emit]; try dsimp only
              refine ⟨trivial, fun w31 τ31 hq31 => ?_⟩
              have hq31 := hq31 (accY (accY s)) (n + 1) ⟨(by repeat (first | exact hR25 | refine SR.i ?_ rfl | refine SR.a ?_ rfl)), (by repeat (first | exact hg25 | refine FgR.i ?_ rfl | refine FgR.a ?_ rfl)), k9_25, by decide, (iff_of_false (by decide) (by (try simp only [frR_i, frR_a, ne_eq, Nat.reduceEqDiff, not_false_eq_true, hf25, hf20, hf18]); exact hnet)), k6_25, (fun q => absurd q (by decide))⟩
              rcases hq31 with ⟨rfl, hn31, hF31⟩ | ⟨rfl, hn31, hR31, hg31, hf31⟩
              · dsimp only [Option.toList, List.cons_append, List.nil_append, Nat.beq, gI_sI, gI_sL, gI_sA, gI_sM, gL_sI, gL_sL, gL_sA, gL_sM, aI_sI, aI_sL, aI_sA, aI_sM, aL_sI, aL_sL, aL_sA, aL_sM]
                refine ⟨fun h32 => ?_, fun h32 => absurd h32 (by decide)⟩
                clear h32
                refine hB _ _ _ _ _ (fun m33 hm33 => ?_)
                dsimp only [ugo, uwp, ust, uct, rfd, BcloseTry, Nat.beq, lv_args, rlk, rs1, rs2, rdl, rky, rcd, rno, rsw, Value.category, List.filter, List.take, List.drop, List.reverse, List.reverseAux, List.cons_append, List.nil_append, Option.toList, Int.toNat, Int.reduceToNat, if_pos, if_neg, reduceIte, ↓reduceIte, Nat.reduceAdd, Nat.reduceEqDiff, Nat.reduceBEq, beq_self_eq_true, Bool.not_true, Bool.not_false, Bool.and_true, Bool.and_false, Bool.true_and, Bool.false_and, gI_sI, gI_sL, gI_sA, gI_sM, gL_sI, gL_sL, gL_sA, gL_sM, aI_sI, aI_sL, aI_sA, aI_sM, aL_sI, aL_sL, aL_sA, aL_sM, BcloseTry_0, BcloseTry_26, BcloseTry_35, BcloseTry_59, BcloseTry_68, BcloseTry_70, BcloseTry_83, BcloseTry_88, BcloseTry_116, BcloseTry_125, BcloseTry_127, BcloseTry_136, BcloseTry_147, BcloseTry_151, BcloseTry_152, BcloseTry_153, BcloseTry_159, BcloseTry_168, BcloseTry_192, BcloseTry_194, BcloseTry_203, BcloseTry_214, BcloseTry_218, BcloseTry_219, BcloseTry_220, BcloseTry_226, BcloseTry_231, oi_0, oi_1, oi_10, oi_1000, oi_11, oi_123, oi_19, oi_20, oi_3, oi_40, oi_41, oi_45, oi_51, oi_52, oi_53, oi_9, Pu_emit]; try dsimp only
                refine hB _ _ _ _ _ (fun m34 hm34 => ?_)
                dsimp only [ugo, uwp, ust, uct, rfd, BcloseTry, Nat.beq, lv_args, rlk, rs1, rs2, rdl, rky, rcd, rno, rsw, Value.category, List.filter, List.take, List.drop, List.reverse, List.reverseAux, List.cons_append, List.nil_append, Option.toList, Int.toNat, Int.reduceToNat, if_pos, if_neg, reduceIte, ↓reduceIte, Nat.reduceAdd, Nat.reduceEqDiff, Nat.reduceBEq, beq_self_eq_true, Bool.not_true, Bool.not_false, Bool.and_true, Bool.and_false, Bool.true_and, Bool.false_and, gI_sI, gI_sL, gI_sA, gI_sM, gL_sI, gL_sL, gL_sA, gL_sM, aI_sI, aI_sL, aI_sA, aI_sM, aL_sI, aL_sL, aL_sA, aL_sM, BcloseTry_0, BcloseTry_26, BcloseTry_35, BcloseTry_59, BcloseTry_68, BcloseTry_70, BcloseTry_83, BcloseTry_88, BcloseTry_116, BcloseTry_125, BcloseTry_127, BcloseTry_136, BcloseTry_147, BcloseTry_151, BcloseTry_152, BcloseTry_153, BcloseTry_159, BcloseTry_168, BcloseTry_192, BcloseTry_194, BcloseTry_203, BcloseTry_214, BcloseTry_218, BcloseTry_219, BcloseTry_220, BcloseTry_226, BcloseTry_231, oi_0, oi_1, oi_10, oi_1000, oi_11, oi_123, oi_19, oi_20, oi_3, oi_40, oi_41, oi_45, oi_51, oi_52, oi_53, oi_9, Pu_emit]; try dsimp only
                unfold Qv_closeTry
                try dsimp only
                exfalso; omega
              · dsimp only [Option.toList, List.cons_append, List.nil_append, Nat.beq, gI_sI, gI_sL, gI_sA, gI_sM, gL_sI, gL_sL, gL_sA, gL_sM, aI_sI, aI_sL, aI_sA, aI_sM, aL_sI, aL_sL, aL_sA, aL_sM]
                have hf31 : frR τ31 = (11 : Int) :: _ := hf31
                refine ⟨fun h35 => absurd h35 (by decide), fun h35 => ?_⟩
                clear h35
                refine hB _ _ _ _ _ (fun m36 hm36 => ?_)
                dsimp only [ugo, uwp, ust, uct, rfd, BcloseTry, Nat.beq, lv_args, rlk, rs1, rs2, rdl, rky, rcd, rno, rsw, Value.category, List.filter, List.take, List.drop, List.reverse, List.reverseAux, List.cons_append, List.nil_append, Option.toList, Int.toNat, Int.reduceToNat, if_pos, if_neg, reduceIte, ↓reduceIte, Nat.reduceAdd, Nat.reduceEqDiff, Nat.reduceBEq, beq_self_eq_true, Bool.not_true, Bool.not_false, Bool.and_true, Bool.and_false, Bool.true_and, Bool.false_and, gI_sI, gI_sL, gI_sA, gI_sM, gL_sI, gL_sL, gL_sA, gL_sM, aI_sI, aI_sL, aI_sA, aI_sM, aL_sI, aL_sL, aL_sA, aL_sM, BcloseTry_0, BcloseTry_26, BcloseTry_35, BcloseTry_59, BcloseTry_68, BcloseTry_70, BcloseTry_83, BcloseTry_88, BcloseTry_116, BcloseTry_125, BcloseTry_127, BcloseTry_136, BcloseTry_147, BcloseTry_151, BcloseTry_152, BcloseTry_153, BcloseTry_159, BcloseTry_168, BcloseTry_192, BcloseTry_194, BcloseTry_203, BcloseTry_214, BcloseTry_218, BcloseTry_219, BcloseTry_220, BcloseTry_226, BcloseTry_231, oi_0, oi_1, oi_10, oi_1000, oi_11, oi_123, oi_19, oi_20, oi_3, oi_40, oi_41, oi_45, oi_51, oi_52, oi_53, oi_9, Pu_emit]; try dsimp only
                refine hB _ _ _ _ _ (fun m37 hm37 => ?_)
                dsimp only [ugo, uwp, ust, uct, rfd, BcloseTry, Nat.beq, lv_args, rlk, rs1, rs2, rdl, rky, rcd, rno, rsw, Value.category, List.filter, List.take, List.drop, List.reverse, List.reverseAux, List.cons_append, List.nil_append, Option.toList, Int.toNat, Int.reduceToNat, if_pos, if_neg, reduceIte, ↓reduceIte, Nat.reduceAdd, Nat.reduceEqDiff, Nat.reduceBEq, beq_self_eq_true, Bool.not_true, Bool.not_false, Bool.and_true, Bool.and_false, Bool.true_and, Bool.false_and, gI_sI, gI_sL, gI_sA, gI_sM, gL_sI, gL_sL, gL_sA, gL_sM, aI_sI, aI_sL, aI_sA, aI_sM, aL_sI, aL_sL, aL_sA, aL_sM, BcloseTry_0, BcloseTry_26, BcloseTry_35, BcloseTry_59, BcloseTry_68, BcloseTry_70, BcloseTry_83, BcloseTry_88, BcloseTry_116, BcloseTry_125, BcloseTry_127, BcloseTry_136, BcloseTry_147, BcloseTry_151, BcloseTry_152, BcloseTry_153, BcloseTry_159, BcloseTry_168, BcloseTry_192, BcloseTry_194, BcloseTry_203, BcloseTry_214, BcloseTry_218, BcloseTry_219, BcloseTry_220, BcloseTry_226, BcloseTry_231, oi_0, oi_1, oi_10, oi_1000, oi_11, oi_123, oi_19, oi_20, oi_3, oi_40, oi_41, oi_45, oi_51, oi_52, oi_53, oi_9, Pu_emit]; try dsimp only
                unfold Qv_closeTry
                try dsimp only
                refine Or.inr ⟨rfl, (accY (accY s)), n, 1, (by repeat (first | exact hR31 | refine SR.i ?_ rfl | refine SR.a ?_ rfl)), (by repeat (first | exact hg31 | refine FgR.i ?_ rfl | refine FgR.a ?_ rfl)), ?_⟩
                rw [hFt, ct_10 (by lia), tr3_y hcf, xp_y hc25]
                (simp only [frR_i, frR_a, ne_eq, Nat.reduceEqDiff, not_false_eq_true, hf31, hf25, hf20, hf18])
                exact (cl_rw (k := 11) hnn.2.1 (by decide)).symm
        · dsimp only [Option.toList, List.cons_append, List.nil_append, Nat.beq, gI_sI, gI_sL, gI_sA, gI_sM, gL_sI, gL_sL, gL_sA, gL_sM, aI_sI, aI_sL, aI_sA, aI_sM, aL_sI, aL_sL, aL_sA, aL_sM]
          have hc15 : ¬ codY s = 70 := fun q => hk15 (he15.mpr q)
          refine ⟨fun h38 => ?_, fun h38 => absurd h38 (by decide)⟩
          clear h38
          refine hB _ _ _ _ _ (fun m39 hm39 => ?_)
          dsimp only [ugo, uwp, ust, uct, rfd, BcloseTry, Nat.beq, lv_args, rlk, rs1, rs2, rdl, rky, rcd, rno, rsw, Value.category, List.filter, List.take, List.drop, List.reverse, List.reverseAux, List.cons_append, List.nil_append, Option.toList, Int.toNat, Int.reduceToNat, if_pos, if_neg, reduceIte, ↓reduceIte, Nat.reduceAdd, Nat.reduceEqDiff, Nat.reduceBEq, beq_self_eq_true, Bool.not_true, Bool.not_false, Bool.and_true, Bool.and_false, Bool.true_and, Bool.false_and, gI_sI, gI_sL, gI_sA, gI_sM, gL_sI, gL_sL, gL_sA, gL_sM, aI_sI, aI_sL, aI_sA, aI_sM, aL_sI, aL_sL, aL_sA, aL_sM, BcloseTry_0, BcloseTry_26, BcloseTry_35, BcloseTry_59, BcloseTry_68, BcloseTry_70, BcloseTry_83, BcloseTry_88, BcloseTry_116, BcloseTry_125, BcloseTry_127, BcloseTry_136, BcloseTry_147, BcloseTry_151, BcloseTry_152, BcloseTry_153, BcloseTry_159, BcloseTry_168, BcloseTry_192, BcloseTry_194, BcloseTry_203, BcloseTry_214, BcloseTry_218, BcloseTry_219, BcloseTry_220, BcloseTry_226, BcloseTry_231, oi_0, oi_1, oi_10, oi_1000, oi_11, oi_123, oi_19, oi_20, oi_3, oi_40, oi_41, oi_45, oi_51, oi_52, oi_53, oi_9, Pu_emit]; try dsimp only
          refine ⟨fun h40 => ?_, fun h40 => ?_⟩
          · refine hB _ _ _ _ _ (fun m41 hm41 => ?_)
            dsimp only [ugo, uwp, ust, uct, rfd, BcloseTry, Nat.beq, lv_args, rlk, rs1, rs2, rdl, rky, rcd, rno, rsw, Value.category, List.filter, List.take, List.drop, List.reverse, List.reverseAux, List.cons_append, List.nil_append, Option.toList, Int.toNat, Int.reduceToNat, if_pos, if_neg, reduceIte, ↓reduceIte, Nat.reduceAdd, Nat.reduceEqDiff, Nat.reduceBEq, beq_self_eq_true, Bool.not_true, Bool.not_false, Bool.and_true, Bool.and_false, Bool.true_and, Bool.false_and, gI_sI, gI_sL, gI_sA, gI_sM, gL_sI, gL_sL, gL_sA, gL_sM, aI_sI, aI_sL, aI_sA, aI_sM, aL_sI, aL_sL, aL_sA, aL_sM, BcloseTry_0, BcloseTry_26, BcloseTry_35, BcloseTry_59, BcloseTry_68, BcloseTry_70, BcloseTry_83, BcloseTry_88, BcloseTry_116, BcloseTry_125, BcloseTry_127, BcloseTry_136, BcloseTry_147, BcloseTry_151, BcloseTry_152, BcloseTry_153, BcloseTry_159, BcloseTry_168, BcloseTry_192, BcloseTry_194, BcloseTry_203, BcloseTry_214, BcloseTry_218, BcloseTry_219, BcloseTry_220, BcloseTry_226, BcloseTry_231, oi_0, oi_1, oi_10, oi_1000, oi_11, oi_123, oi_19, oi_20, oi_3, oi_40, oi_41, oi_45, oi_51, oi_52, oi_53, oi_9, Pu_emit]; try dsimp only
            intro p42
            refine ⟨trivial, fun w43 τ43 hq43 => ?_⟩
            obtain ⟨rfl, hE43⟩ := hq43
            have hR43 := SR.em (e_ := 0) (s := s) (n := (n + 1)) (by repeat (first | exact hRp | refine SR.i ?_ rfl | refine SR.a ?_ rfl)) hE43
            have hg43 := FgR.em (e_ := 0) (by repeat (first | exact hgp | refine FgR.i ?_ rfl | refine FgR.a ?_ rfl)) (s := s) (n := (n + 1)) (by repeat (first | exact hRp | refine SR.i ?_ rfl | refine SR.a ?_ rfl)) hE43
            have hf43 := frR_em hE43
            dsimp only [Option.toList, List.cons_append, List.nil_append, Nat.beq, gI_sI, gI_sL, gI_sA, gI_sM, gL_sI, gL_sL, gL_sA, gL_sM, aI_sI, aI_sL, aI_sA, aI_sM, aL_sI, aL_sL, aL_sA, aL_sM]
            have k6_43 : 0 < gI τ43 36 := by rw [hE43.1 36 (by decide)]; exact hm6
            have k9_43 : nT k < nT (gI τ43 49) := by rw [hE43.1 49 (by decide)]; exact hk
            intro p44
            intro p45
            refine ⟨trivial, fun w46 τ46 hq46 => ?_⟩
            obtain ⟨rfl, hE46⟩ := hq46
            have hR46 := SR.em (e_ := 0) (s := s) (n := (n + 1)) (by repeat (first | exact hR43 | refine SR.i ?_ rfl | refine SR.a ?_ rfl)) hE46
            have hg46 := FgR.em (e_ := 0) (by repeat (first | exact hg43 | refine FgR.i ?_ rfl | refine FgR.a ?_ rfl)) (s := s) (n := (n + 1)) (by repeat (first | exact hR43 | refine SR.i ?_ rfl | refine SR.a ?_ rfl)) hE46
            have hf46 := frR_em hE46
            dsimp only [Option.toList, List.cons_append, List.nil_append, Nat.beq, gI_sI, gI_sL, gI_sA, gI_sM, gL_sI, gL_sL, gL_sA, gL_sM, aI_sI, aI_sL, aI_sA, aI_sM, aL_sI, aL_sL, aL_sA, aL_sM]
            have k6_46 : 0 < gI τ46 36 := by rw [hE46.1 36 (by decide)]; exact k6_43
            have k9_46 : nT k < nT (gI τ46 49) := by rw [hE46.1 49 (by decide)]; exact k9_43
            refine ⟨trivial, fun w47 τ47 hq47 => ?_⟩
            have hq47 : StQ τ47 _ w47 := hq47 s (n + 1) ⟨(by repeat (first | exact hR46 | refine SR.i ?_ rfl | refine SR.a ?_ rfl)), (by repeat (first | exact hg46 | refine FgR.i ?_ rfl | refine FgR.a ?_ rfl))⟩
            have hv47 : w47 = some (.int 0) ∨ w47 = some (.int 1) := hq47.imp (fun q => q.1) (fun q => q.1)
            rcases hv47 with rfl | rfl
            · dsimp only [Option.toList, List.cons_append, List.nil_append, Nat.beq, gI_sI, gI_sL, gI_sA, gI_sM, gL_sI, gL_sL, gL_sA, gL_sM, aI_sI, aI_sL, aI_sA, aI_sM, aL_sI, aL_sL, aL_sA, aL_sM]
              unfold Qv_closeTry
              try dsimp only
              rw [hFt, ct_10 (by lia), tr3_n (by omega)]
              have hq_ := hq47
              (simp only [frR_i, frR_a, ne_eq, Nat.reduceEqDiff, not_false_eq_true, hf46, hf43] at hq_)
              exact hq_
            · dsimp only [Option.toList, List.cons_append, List.nil_append, Nat.beq, gI_sI, gI_sL, gI_sA, gI_sM, gL_sI, gL_sL, gL_sA, gL_sM, aI_sI, aI_sL, aI_sA, aI_sM, aL_sI, aL_sL, aL_sA, aL_sM]
              unfold Qv_closeTry
              try dsimp only
              rw [hFt, ct_10 (by lia), tr3_n (by omega)]
              have hq_ := hq47
              (simp only [frR_i, frR_a, ne_eq, Nat.reduceEqDiff, not_false_eq_true, hf46, hf43] at hq_)
              exact hq_
          · exfalso; lia
    · refine hB _ _ _ _ _ (fun m48 hm48 => ?_)
      dsimp only [ugo, uwp, ust, uct, rfd, BcloseTry, Nat.beq, lv_args, rlk, rs1, rs2, rdl, rky, rcd, rno, rsw, Value.category, List.filter, List.take, List.drop, List.reverse, List.reverseAux, List.cons_append, List.nil_append, Option.toList, Int.toNat, Int.reduceToNat, if_pos, if_neg, reduceIte, ↓reduceIte, Nat.reduceAdd, Nat.reduceEqDiff, Nat.reduceBEq, beq_self_eq_true, Bool.not_true, Bool.not_false, Bool.and_true, Bool.and_false, Bool.true_and, Bool.false_and, gI_sI, gI_sL, gI_sA, gI_sM, gL_sI, gL_sL, gL_sA, gL_sM, aI_sI, aI_sL, aI_sA, aI_sM, aL_sI, aL_sL, aL_sA, aL_sM, BcloseTry_0, BcloseTry_26, BcloseTry_35, BcloseTry_59, BcloseTry_68, BcloseTry_70, BcloseTry_83, BcloseTry_88, BcloseTry_116, BcloseTry_125, BcloseTry_127, BcloseTry_136, BcloseTry_147, BcloseTry_151, BcloseTry_152, BcloseTry_153, BcloseTry_159, BcloseTry_168, BcloseTry_192, BcloseTry_194, BcloseTry_203, BcloseTry_214, BcloseTry_218, BcloseTry_219, BcloseTry_220, BcloseTry_226, BcloseTry_231, oi_0, oi_1, oi_10, oi_1000, oi_11, oi_123, oi_19, oi_20, oi_3, oi_40, oi_41, oi_45, oi_51, oi_52, oi_53, oi_9, Pu_emit]; try dsimp only
      refine ⟨trivial, fun w49 τ49 hq49 => ?_⟩
      obtain ⟨rfl, b49, rfl, hb49⟩ := hq49 trivial
      have he49 := (XrR.s (SR.x (e_ := 0) (by repeat (first | exact hRp | refine SR.i ?_ rfl | refine SR.a ?_ rfl)))).wd (x := 19) (by decide)
      rcases hb49 with ⟨rfl, hk49⟩ | ⟨rfl, hk49⟩
      · dsimp only [Option.toList, List.cons_append, List.nil_append, Nat.beq, gI_sI, gI_sL, gI_sA, gI_sM, gL_sI, gL_sL, gL_sA, gL_sM, aI_sI, aI_sL, aI_sA, aI_sM, aL_sI, aL_sL, aL_sA, aL_sM]
        have hc49 : codY s = 69 := he49.mp hk49
        refine ⟨fun h50 => absurd h50 (by decide), fun h50 => ?_⟩
        clear h50
        refine hB _ _ _ _ _ (fun m51 hm51 => ?_)
        dsimp only [ugo, uwp, ust, uct, rfd, BcloseTry, Nat.beq, lv_args, rlk, rs1, rs2, rdl, rky, rcd, rno, rsw, Value.category, List.filter, List.take, List.drop, List.reverse, List.reverseAux, List.cons_append, List.nil_append, Option.toList, Int.toNat, Int.reduceToNat, if_pos, if_neg, reduceIte, ↓reduceIte, Nat.reduceAdd, Nat.reduceEqDiff, Nat.reduceBEq, beq_self_eq_true, Bool.not_true, Bool.not_false, Bool.and_true, Bool.and_false, Bool.true_and, Bool.false_and, gI_sI, gI_sL, gI_sA, gI_sM, gL_sI, gL_sL, gL_sA, gL_sM, aI_sI, aI_sL, aI_sA, aI_sM, aL_sI, aL_sL, aL_sA, aL_sM, BcloseTry_0, BcloseTry_26, BcloseTry_35, BcloseTry_59, BcloseTry_68, BcloseTry_70, BcloseTry_83, BcloseTry_88, BcloseTry_116, BcloseTry_125, BcloseTry_127, BcloseTry_136, BcloseTry_147, BcloseTry_151, BcloseTry_152, BcloseTry_153, BcloseTry_159, BcloseTry_168, BcloseTry_192, BcloseTry_194, BcloseTry_203, BcloseTry_214, BcloseTry_218, BcloseTry_219, BcloseTry_220, BcloseTry_226, BcloseTry_231, oi_0, oi_1, oi_10, oi_1000, oi_11, oi_123, oi_19, oi_20, oi_3, oi_40, oi_41, oi_45, oi_51, oi_52, oi_53, oi_9, Pu_emit]; try dsimp only
        have hcc : codY s = 69 := hc49
        refine ⟨trivial, fun w52 τ52 hq52 => ?_⟩
        obtain ⟨rfl, hE52⟩ := hq52
        have hR52 := SR.em (e_ := 0) (s := s) (n := (n + 1)) (by repeat (first | exact hRp | refine SR.i ?_ rfl | refine SR.a ?_ rfl)) hE52
        have hg52 := FgR.em (e_ := 0) (by repeat (first | exact hgp | refine FgR.i ?_ rfl | refine FgR.a ?_ rfl)) (s := s) (n := (n + 1)) (by repeat (first | exact hRp | refine SR.i ?_ rfl | refine SR.a ?_ rfl)) hE52
        have hf52 := frR_em hE52
        dsimp only [Option.toList, List.cons_append, List.nil_append, Nat.beq, gI_sI, gI_sL, gI_sA, gI_sM, gL_sI, gL_sL, gL_sA, gL_sM, aI_sI, aI_sL, aI_sA, aI_sM, aL_sI, aL_sL, aL_sA, aL_sM]
        have k6_52 : 0 < gI τ52 36 := by rw [hE52.1 36 (by decide)]; exact hm6
        have k9_52 : nT k < nT (gI τ52 49) := by rw [hE52.1 49 (by decide)]; exact hk
        intro p53
        refine ⟨trivial, fun w54 τ54 hq54 => ?_⟩
        have hq54 := hq54 _ s (n + 1) ⟨(SR.x (e_ := 0) (by repeat (first | exact hR52 | refine SR.i ?_ rfl | refine SR.a ?_ rfl))), by omega, by omega⟩
        rcases hq54 with ⟨rfl, hF54⟩ | ⟨rfl, hX54, hz54, hS54⟩
        · dsimp only [Option.toList, List.cons_append, List.nil_append, Nat.beq, gI_sI, gI_sL, gI_sA, gI_sM, gL_sI, gL_sL, gL_sA, gL_sM, aI_sI, aI_sL, aI_sA, aI_sM, aL_sI, aL_sL, aL_sA, aL_sM]
          refine ⟨fun h55 => ?_, fun h55 => absurd h55 (by decide)⟩
          clear h55
          refine hB _ _ _ _ _ (fun m56 hm56 => ?_)
          dsimp only [ugo, uwp, ust, uct, rfd, BcloseTry, Nat.beq, lv_args, rlk, rs1, rs2, rdl, rky, rcd, rno, rsw, Value.category, List.filter, List.take, List.drop, List.reverse, List.reverseAux, List.cons_append, List.nil_append, Option.toList, Int.toNat, Int.reduceToNat, if_pos, if_neg, reduceIte, ↓reduceIte, Nat.reduceAdd, Nat.reduceEqDiff, Nat.reduceBEq, beq_self_eq_true, Bool.not_true, Bool.not_false, Bool.and_true, Bool.and_false, Bool.true_and, Bool.false_and, gI_sI, gI_sL, gI_sA, gI_sM, gL_sI, gL_sL, gL_sA, gL_sM, aI_sI, aI_sL, aI_sA, aI_sM, aL_sI, aL_sL, aL_sA, aL_sM, BcloseTry_0, BcloseTry_26, BcloseTry_35, BcloseTry_59, BcloseTry_68, BcloseTry_70, BcloseTry_83, BcloseTry_88, BcloseTry_116, BcloseTry_125, BcloseTry_127, BcloseTry_136, BcloseTry_147, BcloseTry_151, BcloseTry_152, BcloseTry_153, BcloseTry_159, BcloseTry_168, BcloseTry_192, BcloseTry_194, BcloseTry_203, BcloseTry_214, BcloseTry_218, BcloseTry_219, BcloseTry_220, BcloseTry_226, BcloseTry_231, oi_0, oi_1, oi_10, oi_1000, oi_11, oi_123, oi_19, oi_20, oi_3, oi_40, oi_41, oi_45, oi_51, oi_52, oi_53, oi_9, Pu_emit]; try dsimp only
          unfold Qv_closeTry
          try dsimp only
          rw [hFt, ct_9 (by lia), tr1_y (Or.inl hcc), tr2_y hcc]
          refine StQ.f hF54 ?_
          exact (by repeat (first | with_reducible exact GpY.rf | with_reducible refine GpY.tr ?_ (gd_fo _) | with_reducible refine GpY.tr ?_ (gd_ef _) | with_reducible refine GpY.tr ?_ (gd_cf _) | with_reducible refine GpY.tr ?_ (gd_wt _) | with_reducible refine GpY.tr ?_ (gd_xp _) | with_reducible refine GpY.tr ?_ (gd_acc _) | with_reducible refine GpY.tr ?_ (gd_rai _) | with_reducible refine GpY.tr ?_ (gd_e _) | with_reducible refine GpY.tr ?_ (gd_o _) | with_reducible refine GpY.tr ?_ (gd_c _) | with_reducible refine GpY.tr ?_ (gd_op _) | with_reducible refine GpY.tr ?_ (gd_clp gd_e _ _) | with_reducible refine GpY.tr ?_ (gd_tl _) | with_reducible refine GpY.tr ?_ (gd_sf _ _ _) | with_reducible refine GpY.tr ?_ (gd_cl _) | with_reducible refine GpY.tr ?_ (gd_pc _) | with_reducible refine GpY.tr ?_ (gd_st _) | with_reducible refine GpY.tr ?_ (gd_rw _) | with_reducible refine GpY.tr ?_ (gd_typ _) | with_reducible refine GpY.tr ?_ (gd_dcl _) | with_reducible refine GpY.tr ?_ (gd_va2 _) | with_reducible refine GpY.tr ?_ (gd_cnd _) | with_reducible refine GpY.tr ?_ (gd_tr1 _) | with_reducible refine GpY.tr ?_ (gd_tr2 (fun _ => gd_rw) _) | with_reducible refine GpY.tr ?_ (gd_tr3 (fun _ => gd_rw) _) | with_reducible refine GpY.tr ?_ (gd_fo1 _) | with_reducible refine GpY.tr ?_ (gd_fo2 _) | with_reducible refine GpY.tr ?_ (gd_fo3 _) | with_reducible refine GpY.tr ?_ (gd_fex _) | with_reducible refine GpY.tr ?_ (pg_var.1) | with_reducible refine GpY.tr ?_ (pg_cas.1) | exact GpY.rf))
        · dsimp only [Option.toList, List.cons_append, List.nil_append, Nat.beq, gI_sI, gI_sL, gI_sA, gI_sM, gL_sI, gL_sL, gL_sA, gL_sM, aI_sI, aI_sL, aI_sA, aI_sM, aL_sI, aL_sL, aL_sA, aL_sM]
          have hR54 := SR.kr (e_ := 0) (by repeat (first | exact hR52 | refine SR.i ?_ rfl | refine SR.a ?_ rfl)) hX54 acc2
          have hg54 := FgR.kr (e_ := 0) (s := s) (n := (n + 1)) (by repeat (first | exact hg52 | refine FgR.i ?_ rfl | refine FgR.a ?_ rfl)) (by repeat (first | exact hR52 | refine SR.i ?_ rfl | refine SR.a ?_ rfl)) hX54
          have hf54 := frR_kr hX54
          have k6_54 : 0 < gI τ54 36 := by rw [hX54.2.2.1.1 36 rfl]; exact k6_52
          have k9_54 : nT k < nT (gI τ54 49) := by rw [hX54.2.2.1.1 49 rfl]; exact k9_52
          refine ⟨fun h57 => absurd h57 (by decide), fun h57 => ?_⟩
          clear h57
          refine hB _ _ _ _ _ (fun m58 hm58 => ?_)
          dsimp only [ugo, uwp, ust, uct, rfd, BcloseTry, Nat.beq, lv_args, rlk, rs1, rs2, rdl, rky, rcd, rno, rsw, Value.category, List.filter, List.take, List.drop, List.reverse, List.reverseAux, List.cons_append, List.nil_append, Option.toList, Int.toNat, Int.reduceToNat, if_pos, if_neg, reduceIte, ↓reduceIte, Nat.reduceAdd, Nat.reduceEqDiff, Nat.reduceBEq, beq_self_eq_true, Bool.not_true, Bool.not_false, Bool.and_true, Bool.and_false, Bool.true_and, Bool.false_and, gI_sI, gI_sL, gI_sA, gI_sM, gL_sI, gL_sL, gL_sA, gL_sM, aI_sI, aI_sL, aI_sA, aI_sM, aL_sI, aL_sL, aL_sA, aL_sM, BcloseTry_0, BcloseTry_26, BcloseTry_35, BcloseTry_59, BcloseTry_68, BcloseTry_70, BcloseTry_83, BcloseTry_88, BcloseTry_116, BcloseTry_125, BcloseTry_127, BcloseTry_136, BcloseTry_147, BcloseTry_151, BcloseTry_152, BcloseTry_153, BcloseTry_159, BcloseTry_168, BcloseTry_192, BcloseTry_194, BcloseTry_203, BcloseTry_214, BcloseTry_218, BcloseTry_219, BcloseTry_220, BcloseTry_226, BcloseTry_231, oi_0, oi_1, oi_10, oi_1000, oi_11, oi_123, oi_19, oi_20, oi_3, oi_40, oi_41, oi_45, oi_51, oi_52, oi_53, oi_9, Pu_emit]; try dsimp only
          refine ⟨trivial, fun w59 τ59 hq59 => ?_⟩
          have hq59 := hq59 _ (accY s) (n + 1) 0 ⟨(SR.x (e_ := 0) (by repeat (first | exact hR54 | refine SR.i ?_ rfl | refine SR.a ?_ rfl))), by decide⟩
          rcases hq59 with ⟨rfl, hF59⟩ | ⟨rfl, hc59, hX59, hz59, hS59⟩
          · dsimp only [Option.toList, List.cons_append, List.nil_append, Nat.beq, gI_sI, gI_sL, gI_sA, gI_sM, gL_sI, gL_sL, gL_sA, gL_sM, aI_sI, aI_sL, aI_sA, aI_sM, aL_sI, aL_sL, aL_sA, aL_sM]
            refine ⟨fun h60 => absurd h60 (by decide), fun h60 => ?_⟩
            clear h60
            refine hB _ _ _ _ _ (fun m61 hm61 => ?_)
            dsimp only [ugo, uwp, ust, uct, rfd, BcloseTry, Nat.beq, lv_args, rlk, rs1, rs2, rdl, rky, rcd, rno, rsw, Value.category, List.filter, List.take, List.drop, List.reverse, List.reverseAux, List.cons_append, List.nil_append, Option.toList, Int.toNat, Int.reduceToNat, if_pos, if_neg, reduceIte, ↓reduceIte, Nat.reduceAdd, Nat.reduceEqDiff, Nat.reduceBEq, beq_self_eq_true, Bool.not_true, Bool.not_false, Bool.and_true, Bool.and_false, Bool.true_and, Bool.false_and, gI_sI, gI_sL, gI_sA, gI_sM, gL_sI, gL_sL, gL_sA, gL_sM, aI_sI, aI_sL, aI_sA, aI_sM, aL_sI, aL_sL, aL_sA, aL_sM, BcloseTry_0, BcloseTry_26, BcloseTry_35, BcloseTry_59, BcloseTry_68, BcloseTry_70, BcloseTry_83, BcloseTry_88, BcloseTry_116, BcloseTry_125, BcloseTry_127, BcloseTry_136, BcloseTry_147, BcloseTry_151, BcloseTry_152, BcloseTry_153, BcloseTry_159, BcloseTry_168, BcloseTry_192, BcloseTry_194, BcloseTry_203, BcloseTry_214, BcloseTry_218, BcloseTry_219, BcloseTry_220, BcloseTry_226, BcloseTry_231, oi_0, oi_1, oi_10, oi_1000, oi_11, oi_123, oi_19, oi_20, oi_3, oi_40, oi_41, oi_45, oi_51, oi_52, oi_53, oi_9, Pu_emit]; try dsimp only
            unfold Qv_closeTry
            try dsimp only
            rw [hFt, ct_9 (by lia), tr1_y (Or.inl hcc), tr2_y hcc]
            refine StQ.f hF59 ?_
            exact (by repeat (first | with_reducible exact GpY.rf | with_reducible refine GpY.tr ?_ (gd_fo _) | with_reducible refine GpY.tr ?_ (gd_ef _) | with_reducible refine GpY.tr ?_ (gd_cf _) | with_reducible refine GpY.tr ?_ (gd_wt _) | with_reducible refine GpY.tr ?_ (gd_xp _) | with_reducible refine GpY.tr ?_ (gd_acc _) | with_reducible refine GpY.tr ?_ (gd_rai _) | with_reducible refine GpY.tr ?_ (gd_e _) | with_reducible refine GpY.tr ?_ (gd_o _) | with_reducible refine GpY.tr ?_ (gd_c _) | with_reducible refine GpY.tr ?_ (gd_op _) | with_reducible refine GpY.tr ?_ (gd_clp gd_e _ _) | with_reducible refine GpY.tr ?_ (gd_tl _) | with_reducible refine GpY.tr ?_ (gd_sf _ _ _) | with_reducible refine GpY.tr ?_ (gd_cl _) | with_reducible refine GpY.tr ?_ (gd_pc _) | with_reducible refine GpY.tr ?_ (gd_st _) | with_reducible refine GpY.tr ?_ (gd_rw _) | with_reducible refine GpY.tr ?_ (gd_typ _) | with_reducible refine GpY.tr ?_ (gd_dcl _) | with_reducible refine GpY.tr ?_ (gd_va2 _) | with_reducible refine GpY.tr ?_ (gd_cnd _) | with_reducible refine GpY.tr ?_ (gd_tr1 _) | with_reducible refine GpY.tr ?_ (gd_tr2 (fun _ => gd_rw) _) | with_reducible refine GpY.tr ?_ (gd_tr3 (fun _ => gd_rw) _) | with_reducible refine GpY.tr ?_ (gd_fo1 _) | with_reducible refine GpY.tr ?_ (gd_fo2 _) | with_reducible refine GpY.tr ?_ (gd_fo3 _) | with_reducible refine GpY.tr ?_ (gd_fex _) | with_reducible refine GpY.tr ?_ (pg_var.1) | with_reducible refine GpY.tr ?_ (pg_cas.1) | exact GpY.rf))
          · dsimp only [Option.toList, List.cons_append, List.nil_append, Nat.beq, gI_sI, gI_sL, gI_sA, gI_sM, gL_sI, gL_sL, gL_sA, gL_sM, aI_sI, aI_sL, aI_sA, aI_sM, aL_sI, aL_sL, aL_sA, aL_sM]
            have hR59 := SR.kr (e_ := 0) (by repeat (first | exact hR54 | refine SR.i ?_ rfl | refine SR.a ?_ rfl)) hX59 acc2
            have hg59 := FgR.kr (e_ := 0) (s := (accY s)) (n := (n + 1)) (by repeat (first | exact hg54 | refine FgR.i ?_ rfl | refine FgR.a ?_ rfl)) (by repeat (first | exact hR54 | refine SR.i ?_ rfl | refine SR.a ?_ rfl)) hX59
            have hf59 := frR_kr hX59
            have k6_59 : 0 < gI τ59 36 := by rw [hX59.2.2.1.1 36 rfl]; exact k6_54
            have k9_59 : nT k < nT (gI τ59 49) := by rw [hX59.2.2.1.1 49 rfl]; exact k9_54
            refine ⟨fun h62 => ?_, fun h62 => absurd h62 (by decide)⟩
            clear h62
            refine hB _ _ _ _ _ (fun m63 hm63 => ?_)
            dsimp only [ugo, uwp, ust, uct, rfd, BcloseTry, Nat.beq, lv_args, rlk, rs1, rs2, rdl, rky, rcd, rno, rsw, Value.category, List.filter, List.take, List.drop, List.reverse, List.reverseAux, List.cons_append, List.nil_append, Option.toList, Int.toNat, Int.reduceToNat, if_pos, if_neg, reduceIte, ↓reduceIte, Nat.reduceAdd, Nat.reduceEqDiff, Nat.reduceBEq, beq_self_eq_true, Bool.not_true, Bool.not_false, Bool.and_true, Bool.and_false, Bool.true_and, Bool.false_and, gI_sI, gI_sL, gI_sA, gI_sM, gL_sI, gL_sL, gL_sA, gL_sM, aI_sI, aI_sL, aI_sA, aI_sM, aL_sI, aL_sL, aL_sA, aL_sM, BcloseTry_0, BcloseTry_26, BcloseTry_35, BcloseTry_59, BcloseTry_68, BcloseTry_70, BcloseTry_83, BcloseTry_88, BcloseTry_116, BcloseTry_125, BcloseTry_127, BcloseTry_136, BcloseTry_147, BcloseTry_151, BcloseTry_152, BcloseTry_153, BcloseTry_159, BcloseTry_168, BcloseTry_192, BcloseTry_194, BcloseTry_203, BcloseTry_214, BcloseTry_218, BcloseTry_219, BcloseTry_220, BcloseTry_226, BcloseTry_231, oi_0, oi_1, oi_10, oi_1000, oi_11, oi_123, oi_19, oi_20, oi_3, oi_40, oi_41, oi_45, oi_51, oi_52, oi_53, oi_9, Pu_emit]; try dsimp only
            intro p64
            refine ⟨fun h65 => ?_, fun h65 => ?_⟩
            · refine hB _ _ _ _ _ (fun m66 hm66 => ?_)
              dsimp only [ugo, uwp, ust, uct, rfd, BcloseTry, Nat.beq, lv_args, rlk, rs1, rs2, rdl, rky, rcd, rno, rsw, Value.category, List.filter, List.take, List.drop, List.reverse, List.reverseAux, List.cons_append, List.nil_append, Option.toList, Int.toNat, Int.reduceToNat, if_pos, if_neg, reduceIte, ↓reduceIte, Nat.reduceAdd, Nat.reduceEqDiff, Nat.reduceBEq, beq_self_eq_true, Bool.not_true, Bool.not_false, Bool.and_true, Bool.and_false, Bool.true_and, Bool.false_and, gI_sI, gI_sL, gI_sA, gI_sM, gL_sI, gL_sL, gL_sA, gL_sM, aI_sI, aI_sL, aI_sA, aI_sM, aL_sI, aL_sL, aL_sA, aL_sM, BcloseTry_0, BcloseTry_26, BcloseTry_35, BcloseTry_59, BcloseTry_68, BcloseTry_70, BcloseTry_83, BcloseTry_88, BcloseTry_116, BcloseTry_125, BcloseTry_127, BcloseTry_136, BcloseTry_147, BcloseTry_151, BcloseTry_152, BcloseTry_153, BcloseTry_159, BcloseTry_168, BcloseTry_192, BcloseTry_194, BcloseTry_203, BcloseTry_214, BcloseTry_218, BcloseTry_219, BcloseTry_220, BcloseTry_226, BcloseTry_231, oi_0, oi_1, oi_10, oi_1000, oi_11, oi_123, oi_19, oi_20, oi_3, oi_40, oi_41, oi_45, oi_51, oi_52, oi_53, oi_9, Pu_emit]; try dsimp only
              have hcn := (SR.sh (e := 0) hR59).ki.2.2.1.mp (by exact h65)
              have hR_ := hR59
              intro p67
              refine ⟨trivial, fun w68 τ68 hq68 => ?_⟩
              have hV68 := hq68 (accY (accY s)) (n + 1) ⟨SR.sh (e := 0) (n := (n + 1)) (by repeat (first | exact hR59 | refine SR.i ?_ rfl | refine SR.a ?_ rfl)), SR.dp (e := 0) (s := (accY (accY s))) (by repeat (first | exact hR59 | refine SR.i ?_ rfl | refine SR.a ?_ rfl)), by omega, SR.vv (e := 0) (n := (n + 1)) (by repeat (first | exact hR59 | refine SR.i ?_ rfl | refine SR.a ?_ rfl))⟩
              rcases hV68 with ⟨rfl, hF68⟩ | ⟨rfl, hSh68, hz68, hl68, hva68⟩
              · dsimp only [Option.toList, List.cons_append, List.nil_append, Nat.beq, gI_sI, gI_sL, gI_sA, gI_sM, gL_sI, gL_sL, gL_sA, gL_sM, aI_sI, aI_sL, aI_sA, aI_sM, aL_sI, aL_sL, aL_sA, aL_sM]
                have hF68 : FlR τ68 (dclY 3 0 1 (accY (accY s))) := hF68
                refine ⟨fun h69 => ?_, fun h69 => absurd h69 (by decide)⟩
                clear h69
                refine hB _ _ _ _ _ (fun m70 hm70 => ?_)
                dsimp only [ugo, uwp, ust, uct, rfd, BcloseTry, Nat.beq, lv_args, rlk, rs1, rs2, rdl, rky, rcd, rno, rsw, Value.category, List.filter, List.take, List.drop, List.reverse, List.reverseAux, List.cons_append, List.nil_append, Option.toList, Int.toNat, Int.reduceToNat, if_pos, if_neg, reduceIte, ↓reduceIte, Nat.reduceAdd, Nat.reduceEqDiff, Nat.reduceBEq, beq_self_eq_true, Bool.not_true, Bool.not_false, Bool.and_true, Bool.and_false, Bool.true_and, Bool.false_and, gI_sI, gI_sL, gI_sA, gI_sM, gL_sI, gL_sL, gL_sA, gL_sM, aI_sI, aI_sL, aI_sA, aI_sM, aL_sI, aL_sL, aL_sA, aL_sM, BcloseTry_0, BcloseTry_26, BcloseTry_35, BcloseTry_59, BcloseTry_68, BcloseTry_70, BcloseTry_83, BcloseTry_88, BcloseTry_116, BcloseTry_125, BcloseTry_127, BcloseTry_136, BcloseTry_147, BcloseTry_151, BcloseTry_152, BcloseTry_153, BcloseTry_159, BcloseTry_168, BcloseTry_192, BcloseTry_194, BcloseTry_203, BcloseTry_214, BcloseTry_218, BcloseTry_219, BcloseTry_220, BcloseTry_226, BcloseTry_231, oi_0, oi_1, oi_10, oi_1000, oi_11, oi_123, oi_19, oi_20, oi_3, oi_40, oi_41, oi_45, oi_51, oi_52, oi_53, oi_9, Pu_emit]; try dsimp only
                unfold Qv_closeTry
                try dsimp only
                rw [hFt, ct_9 (by lia), tr1_y (Or.inl hcc), tr2_y hcc, xp_y hc59]
                refine StQ.f hF68 ?_
                exact (by repeat (first | with_reducible exact GpY.rf | with_reducible refine GpY.tr ?_ (gd_fo _) | with_reducible refine GpY.tr ?_ (gd_ef _) | with_reducible refine GpY.tr ?_ (gd_cf _) | with_reducible refine GpY.tr ?_ (gd_wt _) | with_reducible refine GpY.tr ?_ (gd_xp _) | with_reducible refine GpY.tr ?_ (gd_acc _) | with_reducible refine GpY.tr ?_ (gd_rai _) | with_reducible refine GpY.tr ?_ (gd_e _) | with_reducible refine GpY.tr ?_ (gd_o _) | with_reducible refine GpY.tr ?_ (gd_c _) | with_reducible refine GpY.tr ?_ (gd_op _) | with_reducible refine GpY.tr ?_ (gd_clp gd_e _ _) | with_reducible refine GpY.tr ?_ (gd_tl _) | with_reducible refine GpY.tr ?_ (gd_sf _ _ _) | with_reducible refine GpY.tr ?_ (gd_cl _) | with_reducible refine GpY.tr ?_ (gd_pc _) | with_reducible refine GpY.tr ?_ (gd_st _) | with_reducible refine GpY.tr ?_ (gd_rw _) | with_reducible refine GpY.tr ?_ (gd_typ _) | with_reducible refine GpY.tr ?_ (gd_dcl _) | with_reducible refine GpY.tr ?_ (gd_va2 _) | with_reducible refine GpY.tr ?_ (gd_cnd _) | with_reducible refine GpY.tr ?_ (gd_tr1 _) | with_reducible refine GpY.tr ?_ (gd_tr2 (fun _ => gd_rw) _) | with_reducible refine GpY.tr ?_ (gd_tr3 (fun _ => gd_rw) _) | with_reducible refine GpY.tr ?_ (gd_fo1 _) | with_reducible refine GpY.tr ?_ (gd_fo2 _) | with_reducible refine GpY.tr ?_ (gd_fo3 _) | with_reducible refine GpY.tr ?_ (gd_fex _) | with_reducible refine GpY.tr ?_ (pg_var.1) | with_reducible refine GpY.tr ?_ (pg_cas.1) | exact GpY.rf))
              · dsimp only [Option.toList, List.cons_append, List.nil_append, Nat.beq, gI_sI, gI_sL, gI_sA, gI_sM, gL_sI, gL_sL, gL_sA, gL_sM, aI_sI, aI_sL, aI_sA, aI_sM, aL_sI, aL_sL, aL_sA, aL_sM]
                obtain ⟨hR68, hg68, hf68⟩ := SR.va (e := 0) (s := (accY (accY s))) (n := (n + 1)) (by repeat (first | exact hR59 | refine SR.i ?_ rfl | refine SR.a ?_ rfl)) (by (try simp only [frR_i, frR_a, ne_eq, Nat.reduceEqDiff, not_false_eq_true, hf59, hf54, hf52]); exact hnet) hva68 hSh68 hz68
                have hg68 := hg68 (by repeat (first | exact hg59 | refine FgR.i ?_ rfl | refine FgR.a ?_ rfl))
                have hR68 : SRx 0 τ68 (accY (vadY 3 0 (accY (accY s)))) (n + 1) := hR68
                have k6_68 : 0 < gI τ68 36 := by rw [hva68.1 36 (by decide) (by decide)]; exact k6_59
                have k9_68 : nT k < nT (gI τ68 49) := by rw [hva68.1 49 (by decide) (by decide)]; exact k9_59
                have hdc := dcl_y (ty := 3) (f := 0) (SR.z hR_) hcn hl68
                refine ⟨fun h71 => absurd h71 (by decide), fun h71 => ?_⟩
                clear h71
                refine hB _ _ _ _ _ (fun m72 hm72 => ?_)
                dsimp only [ugo, uwp, ust, uct, rfd, BcloseTry, Nat.beq, lv_args, rlk, rs1, rs2, rdl, rky, rcd, rno, rsw, Value.category, List.filter, List.take, List.drop, List.reverse, List.reverseAux, List.cons_append, List.nil_append, Option.toList, Int.toNat, Int.reduceToNat, if_pos, if_neg, reduceIte, ↓reduceIte, Nat.reduceAdd, Nat.reduceEqDiff, Nat.reduceBEq, beq_self_eq_true, Bool.not_true, Bool.not_false, Bool.and_true, Bool.and_false, Bool.true_and, Bool.false_and, gI_sI, gI_sL, gI_sA, gI_sM, gL_sI, gL_sL, gL_sA, gL_sM, aI_sI, aI_sL, aI_sA, aI_sM, aL_sI, aL_sL, aL_sA, aL_sM, BcloseTry_0, BcloseTry_26, BcloseTry_35, BcloseTry_59, BcloseTry_68, BcloseTry_70, BcloseTry_83, BcloseTry_88, BcloseTry_116, BcloseTry_125, BcloseTry_127, BcloseTry_136, BcloseTry_147, BcloseTry_151, BcloseTry_152, BcloseTry_153, BcloseTry_159, BcloseTry_168, BcloseTry_192, BcloseTry_194, BcloseTry_203, BcloseTry_214, BcloseTry_218, BcloseTry_219, BcloseTry_220, BcloseTry_226, BcloseTry_231, oi_0, oi_1, oi_10, oi_1000, oi_11, oi_123, oi_19, oi_20, oi_3, oi_40, oi_41, oi_45, oi_51, oi_52, oi_53, oi_9, Pu_emit]; try dsimp only
                refine ⟨trivial, fun w73 τ73 hq73 => ?_⟩
                have hq73 := hq73 _ (accY (vadY 3 0 (accY (accY s)))) (n + 1) 1 ⟨(SR.x (e_ := 0) (by repeat (first | exact hR68 | refine SR.i ?_ rfl | refine SR.a ?_ rfl))), by decide⟩
                rcases hq73 with ⟨rfl, hF73⟩ | ⟨rfl, hc73, hX73, hz73, hS73⟩
                · dsimp only [Option.toList, List.cons_append, List.nil_append, Nat.beq, gI_sI, gI_sL, gI_sA, gI_sM, gL_sI, gL_sL, gL_sA, gL_sM, aI_sI, aI_sL, aI_sA, aI_sM, aL_sI, aL_sL, aL_sA, aL_sM]
                  refine ⟨fun h74 => absurd h74 (by decide), fun h74 => ?_⟩
                  clear h74
                  refine hB _ _ _ _ _ (fun m75 hm75 => ?_)
                  dsimp only [ugo, uwp, ust, uct, rfd, BcloseTry, Nat.beq, lv_args, rlk, rs1, rs2, rdl, rky, rcd, rno, rsw, Value.category, List.filter, List.take, List.drop, List.reverse, List.reverseAux, List.cons_append, List.nil_append, Option.toList, Int.toNat, Int.reduceToNat, if_pos, if_neg, reduceIte, ↓reduceIte, Nat.reduceAdd, Nat.reduceEqDiff, Nat.reduceBEq, beq_self_eq_true, Bool.not_true, Bool.not_false, Bool.and_true, Bool.and_false, Bool.true_and, Bool.false_and, gI_sI, gI_sL, gI_sA, gI_sM, gL_sI, gL_sL, gL_sA, gL_sM, aI_sI, aI_sL, aI_sA, aI_sM, aL_sI, aL_sL, aL_sA, aL_sM, BcloseTry_0, BcloseTry_26, BcloseTry_35, BcloseTry_59, BcloseTry_68, BcloseTry_70, BcloseTry_83, BcloseTry_88, BcloseTry_116, BcloseTry_125, BcloseTry_127, BcloseTry_136, BcloseTry_147, BcloseTry_151, BcloseTry_152, BcloseTry_153, BcloseTry_159, BcloseTry_168, BcloseTry_192, BcloseTry_194, BcloseTry_203, BcloseTry_214, BcloseTry_218, BcloseTry_219, BcloseTry_220, BcloseTry_226, BcloseTry_231, oi_0, oi_1, oi_10, oi_1000, oi_11, oi_123, oi_19, oi_20, oi_3, oi_40, oi_41, oi_45, oi_51, oi_52, oi_53, oi_9, Pu_emit]; try dsimp only
                  unfold Qv_closeTry
                  try dsimp only
                  rw [hFt, ct_9 (by lia), tr1_y (Or.inl hcc), tr2_y hcc, xp_y hc59, hdc]
                  refine StQ.f hF73 ?_
                  exact (by repeat (first | with_reducible exact GpY.rf | with_reducible refine GpY.tr ?_ (gd_fo _) | with_reducible refine GpY.tr ?_ (gd_ef _) | with_reducible refine GpY.tr ?_ (gd_cf _) | with_reducible refine GpY.tr ?_ (gd_wt _) | with_reducible refine GpY.tr ?_ (gd_xp _) | with_reducible refine GpY.tr ?_ (gd_acc _) | with_reducible refine GpY.tr ?_ (gd_rai _) | with_reducible refine GpY.tr ?_ (gd_e _) | with_reducible refine GpY.tr ?_ (gd_o _) | with_reducible refine GpY.tr ?_ (gd_c _) | with_reducible refine GpY.tr ?_ (gd_op _) | with_reducible refine GpY.tr ?_ (gd_clp gd_e _ _) | with_reducible refine GpY.tr ?_ (gd_tl _) | with_reducible refine GpY.tr ?_ (gd_sf _ _ _) | with_reducible refine GpY.tr ?_ (gd_cl _) | with_reducible refine GpY.tr ?_ (gd_pc _) | with_reducible refine GpY.tr ?_ (gd_st _) | with_reducible refine GpY.tr ?_ (gd_rw _) | with_reducible refine GpY.tr ?_ (gd_typ _) | with_reducible refine GpY.tr ?_ (gd_dcl _) | with_reducible refine GpY.tr ?_ (gd_va2 _) | with_reducible refine GpY.tr ?_ (gd_cnd _) | with_reducible refine GpY.tr ?_ (gd_tr1 _) | with_reducible refine GpY.tr ?_ (gd_tr2 (fun _ => gd_rw) _) | with_reducible refine GpY.tr ?_ (gd_tr3 (fun _ => gd_rw) _) | with_reducible refine GpY.tr ?_ (gd_fo1 _) | with_reducible refine GpY.tr ?_ (gd_fo2 _) | with_reducible refine GpY.tr ?_ (gd_fo3 _) | with_reducible refine GpY.tr ?_ (gd_fex _) | with_reducible refine GpY.tr ?_ (pg_var.1) | with_reducible refine GpY.tr ?_ (pg_cas.1) | exact GpY.rf))
                · dsimp only [Option.toList, List.cons_append, List.nil_append, Nat.beq, gI_sI, gI_sL, gI_sA, gI_sM, gL_sI, gL_sL, gL_sA, gL_sM, aI_sI, aI_sL, aI_sA, aI_sM, aL_sI, aL_sL, aL_sA, aL_sM]
                  have hR73 := SR.kr (e_ := 0) (by repeat (first | exact hR68 | refine SR.i ?_ rfl | refine SR.a ?_ rfl)) hX73 acc2
                  have hg73 := FgR.kr (e_ := 0) (s := (accY (vadY 3 0 (accY (accY s))))) (n := (n + 1)) (by repeat (first | exact hg68 | refine FgR.i ?_ rfl | refine FgR.a ?_ rfl)) (by repeat (first | exact hR68 | refine SR.i ?_ rfl | refine SR.a ?_ rfl)) hX73
                  have hf73 := frR_kr hX73
                  have k6_73 : 0 < gI τ73 36 := by rw [hX73.2.2.1.1 36 rfl]; exact k6_68
                  have k9_73 : nT k < nT (gI τ73 49) := by rw [hX73.2.2.1.1 49 rfl]; exact k9_68
                  refine ⟨fun h76 => ?_, fun h76 => absurd h76 (by decide)⟩
                  clear h76
                  refine hB _ _ _ _ _ (fun m77 hm77 => ?_)
                  dsimp only [ugo, uwp, ust, uct, rfd, BcloseTry, Nat.beq, lv_args, rlk, rs1, rs2, rdl, rky, rcd, rno, rsw, Value.category, List.filter, List.take, List.drop, List.reverse, List.reverseAux, List.cons_append, List.nil_append, Option.toList, Int.toNat, Int.reduceToNat, if_pos, if_neg, reduceIte, ↓reduceIte, Nat.reduceAdd, Nat.reduceEqDiff, Nat.reduceBEq, beq_self_eq_true, Bool.not_true, Bool.not_false, Bool.and_true, Bool.and_false, Bool.true_and, Bool.false_and, gI_sI, gI_sL, gI_sA, gI_sM, gL_sI, gL_sL, gL_sA, gL_sM, aI_sI, aI_sL, aI_sA, aI_sM, aL_sI, aL_sL, aL_sA, aL_sM, BcloseTry_0, BcloseTry_26, BcloseTry_35, BcloseTry_59, BcloseTry_68, BcloseTry_70, BcloseTry_83, BcloseTry_88, BcloseTry_116, BcloseTry_125, BcloseTry_127, BcloseTry_136, BcloseTry_147, BcloseTry_151, BcloseTry_152, BcloseTry_153, BcloseTry_159, BcloseTry_168, BcloseTry_192, BcloseTry_194, BcloseTry_203, BcloseTry_214, BcloseTry_218, BcloseTry_219, BcloseTry_220, BcloseTry_226, BcloseTry_231, oi_0, oi_1, oi_10, oi_1000, oi_11, oi_123, oi_19, oi_20, oi_3, oi_40, oi_41, oi_45, oi_51, oi_52, oi_53, oi_9, Pu_emit]; try dsimp only
                  refine ⟨trivial, fun w78 τ78 hq78 => ?_⟩
                  have hq78 := hq78 _ (accY (accY (vadY 3 0 (accY (accY s))))) (n + 1) 2 ⟨(SR.x (e_ := 0) (by repeat (first | exact hR73 | refine SR.i ?_ rfl | refine SR.a ?_ rfl))), by decide⟩
                  rcases hq78 with ⟨rfl, hF78⟩ | ⟨rfl, hc78, hX78, hz78, hS78⟩
                  · dsimp only [Option.toList, List.cons_append, List.nil_append, Nat.beq, gI_sI, gI_sL, gI_sA, gI_sM, gL_sI, gL_sL, gL_sA, gL_sM, aI_sI, aI_sL, aI_sA, aI_sM, aL_sI, aL_sL, aL_sA, aL_sM]
                    refine ⟨fun h79 => ?_, fun h79 => absurd h79 (by decide)⟩
                    clear h79
                    refine hB _ _ _ _ _ (fun m80 hm80 => ?_)
                    dsimp only [ugo, uwp, ust, uct, rfd, BcloseTry, Nat.beq, lv_args, rlk, rs1, rs2, rdl, rky, rcd, rno, rsw, Value.category, List.filter, List.take, List.drop, List.reverse, List.reverseAux, List.cons_append, List.nil_append, Option.toList, Int.toNat, Int.reduceToNat, if_pos, if_neg, reduceIte, ↓reduceIte, Nat.reduceAdd, Nat.reduceEqDiff, Nat.reduceBEq, beq_self_eq_true, Bool.not_true, Bool.not_false, Bool.and_true, Bool.and_false, Bool.true_and, Bool.false_and, gI_sI, gI_sL, gI_sA, gI_sM, gL_sI, gL_sL, gL_sA, gL_sM, aI_sI, aI_sL, aI_sA, aI_sM, aL_sI, aL_sL, aL_sA, aL_sM, BcloseTry_0, BcloseTry_26, BcloseTry_35, BcloseTry_59, BcloseTry_68, BcloseTry_70, BcloseTry_83, BcloseTry_88, BcloseTry_116, BcloseTry_125, BcloseTry_127, BcloseTry_136, BcloseTry_147, BcloseTry_151, BcloseTry_152, BcloseTry_153, BcloseTry_159, BcloseTry_168, BcloseTry_192, BcloseTry_194, BcloseTry_203, BcloseTry_214, BcloseTry_218, BcloseTry_219, BcloseTry_220, BcloseTry_226, BcloseTry_231, oi_0, oi_1, oi_10, oi_1000, oi_11, oi_123, oi_19, oi_20, oi_3, oi_40, oi_41, oi_45, oi_51, oi_52, oi_53, oi_9, Pu_emit]; try dsimp only
                    refine hB _ _ _ _ _ (fun m81 hm81 => ?_)
                    dsimp only [ugo, uwp, ust, uct, rfd, BcloseTry, Nat.beq, lv_args, rlk, rs1, rs2, rdl, rky, rcd, rno, rsw, Value.category, List.filter, List.take, List.drop, List.reverse, List.reverseAux, List.cons_append, List.nil_append, Option.toList, Int.toNat, Int.reduceToNat, if_pos, if_neg, reduceIte, ↓reduceIte, Nat.reduceAdd, Nat.reduceEqDiff, Nat.reduceBEq, beq_self_eq_true, Bool.not_true, Bool.not_false, Bool.and_true, Bool.and_false, Bool.true_and, Bool.false_and, gI_sI, gI_sL, gI_sA, gI_sM, gL_sI, gL_sL, gL_sA, gL_sM, aI_sI, aI_sL, aI_sA, aI_sM, aL_sI, aL_sL, aL_sA, aL_sM, BcloseTry_0, BcloseTry_26, BcloseTry_35, BcloseTry_59, BcloseTry_68, BcloseTry_70, BcloseTry_83, BcloseTry_88, BcloseTry_116, BcloseTry_125, BcloseTry_127, BcloseTry_136, BcloseTry_147, BcloseTry_151, BcloseTry_152, BcloseTry_153, BcloseTry_159, BcloseTry_168, BcloseTry_192, BcloseTry_194, BcloseTry_203, BcloseTry_214, BcloseTry_218, BcloseTry_219, BcloseTry_220, BcloseTry_226, BcloseTry_231, oi_0, oi_1, oi_10, oi_1000, oi_11, oi_123, oi_19, oi_20, oi_3, oi_40, oi_41, oi_45, oi_51, oi_52, oi_53, oi_9, Pu_emit]; try dsimp only
                    unfold Qv_closeTry
                    try dsimp only
                    rw [hFt, ct_9 (by lia), tr1_y (Or.inl hcc), tr2_y hcc, xp_y hc59, hdc, xp_y hc73]
                    refine StQ.f hF78 ?_
                    exact (by repeat (first | with_reducible exact GpY.rf | with_reducible refine GpY.tr ?_ (gd_fo _) | with_reducible refine GpY.tr ?_ (gd_ef _) | with_reducible refine GpY.tr ?_ (gd_cf _) | with_reducible refine GpY.tr ?_ (gd_wt _) | with_reducible refine GpY.tr ?_ (gd_xp _) | with_reducible refine GpY.tr ?_ (gd_acc _) | with_reducible refine GpY.tr ?_ (gd_rai _) | with_reducible refine GpY.tr ?_ (gd_e _) | with_reducible refine GpY.tr ?_ (gd_o _) | with_reducible refine GpY.tr ?_ (gd_c _) | with_reducible refine GpY.tr ?_ (gd_op _) | with_reducible refine GpY.tr ?_ (gd_clp gd_e _ _) | with_reducible refine GpY.tr ?_ (gd_tl _) | with_reducible refine GpY.tr ?_ (gd_sf _ _ _) | with_reducible refine GpY.tr ?_ (gd_cl _) | with_reducible refine GpY.tr ?_ (gd_pc _) | with_reducible refine GpY.tr ?_ (gd_st _) | with_reducible refine GpY.tr ?_ (gd_rw _) | with_reducible refine GpY.tr ?_ (gd_typ _) | with_reducible refine GpY.tr ?_ (gd_dcl _) | with_reducible refine GpY.tr ?_ (gd_va2 _) | with_reducible refine GpY.tr ?_ (gd_cnd _) | with_reducible refine GpY.tr ?_ (gd_tr1 _) | with_reducible refine GpY.tr ?_ (gd_tr2 (fun _ => gd_rw) _) | with_reducible refine GpY.tr ?_ (gd_tr3 (fun _ => gd_rw) _) | with_reducible refine GpY.tr ?_ (gd_fo1 _) | with_reducible refine GpY.tr ?_ (gd_fo2 _) | with_reducible refine GpY.tr ?_ (gd_fo3 _) | with_reducible refine GpY.tr ?_ (gd_fex _) | with_reducible refine GpY.tr ?_ (pg_var.1) | with_reducible refine GpY.tr ?_ (pg_cas.1) | exact GpY.rf))
                  · dsimp only [Option.toList, List.cons_append, List.nil_append, Nat.beq, gI_sI, gI_sL, gI_sA, gI_sM, gL_sI, gL_sL, gL_sA, gL_sM, aI_sI, aI_sL, aI_sA, aI_sM, aL_sI, aL_sL, aL_sA, aL_sM]
                    have hR78 := SR.kr (e_ := 0) (by repeat (first | exact hR73 | refine SR.i ?_ rfl | refine SR.a ?_ rfl)) hX78 acc2
                    have hg78 := FgR.kr (e_ := 0) (s := (accY (accY (vadY 3 0 (accY (accY s)))))) (n := (n + 1)) (by repeat (first | exact hg73 | refine FgR.i ?_ rfl | refine FgR.a ?_ rfl)) (by repeat (first | exact hR73 | refine SR.i ?_ rfl | refine SR.a ?_ rfl)) hX78
                    have hf78 := frR_kr hX78
                    have k6_78 : 0 < gI τ78 36 := by rw [hX78.2.2.1.1 36 rfl]; exact k6_73
                    have k9_78 : nT k < nT (gI τ78 49) := by rw [hX78.2.2.1.1 49 rfl]; exact k9_73
                    refine ⟨fun h82 => absurd h82 (by decide), fun h82 => ?_⟩
                    clear h82
                    refine hB _ _ _ _ _ (fun m83 hm83 => ?_)
                    dsimp only [ugo, uwp, ust, uct, rfd, BcloseTry, Nat.beq, lv_args, rlk, rs1, rs2, rdl, rky, rcd, rno, rsw, Value.category, List.filter, List.take, List.drop, List.reverse, List.reverseAux, List.cons_append, List.nil_append, Option.toList, Int.toNat, Int.reduceToNat, if_pos, if_neg, reduceIte, ↓reduceIte, Nat.reduceAdd, Nat.reduceEqDiff, Nat.reduceBEq, beq_self_eq_true, Bool.not_true, Bool.not_false, Bool.and_true, Bool.and_false, Bool.true_and, Bool.false_and, gI_sI, gI_sL, gI_sA, gI_sM, gL_sI, gL_sL, gL_sA, gL_sM, aI_sI, aI_sL, aI_sA, aI_sM, aL_sI, aL_sL, aL_sA, aL_sM, BcloseTry_0, BcloseTry_26, BcloseTry_35, BcloseTry_59, BcloseTry_68, BcloseTry_70, BcloseTry_83, BcloseTry_88, BcloseTry_116, BcloseTry_125, BcloseTry_127, BcloseTry_136, BcloseTry_147, BcloseTry_151, BcloseTry_152, BcloseTry_153, BcloseTry_159, BcloseTry_168, BcloseTry_192, BcloseTry_194, BcloseTry_203, BcloseTry_214, BcloseTry_218, BcloseTry_219, BcloseTry_220, BcloseTry_226, BcloseTry_231, oi_0, oi_1, oi_10, oi_1000, oi_11, oi_123, oi_19, oi_20, oi_3, oi_40, oi_41, oi_45, oi_51, oi_52, oi_53, oi_9, Pu_emit]; try dsimp only
                    refine ⟨trivial, fun w84 τ84 hq84 => ?_⟩
                    have hq84 := hq84 (accY (accY (accY (vadY 3 0 (accY (accY s)))))) (n + 1) ⟨(by repeat (first | exact hR78 | refine SR.i ?_ rfl | refine SR.a ?_ rfl)), (by repeat (first | exact hg78 | refine FgR.i ?_ rfl | refine FgR.a ?_ rfl)), k9_78, by decide, (iff_of_false (by decide) (by (try simp only [frR_i, frR_a, ne_eq, Nat.reduceEqDiff, not_false_eq_true, hf78, hf73, hf68, hf59, hf54, hf52]); exact hnet)), k6_78, (fun q => absurd q (by decide))⟩
                    rcases hq84 with ⟨rfl, hn84, hF84⟩ | ⟨rfl, hn84, hR84, hg84, hf84⟩
                    · dsimp only [Option.toList, List.cons_append, List.nil_append, Nat.beq, gI_sI, gI_sL, gI_sA, gI_sM, gL_sI, gL_sL, gL_sA, gL_sM, aI_sI, aI_sL, aI_sA, aI_sM, aL_sI, aL_sL, aL_sA, aL_sM]
                      refine ⟨fun h85 => ?_, fun h85 => absurd h85 (by decide)⟩
                      clear h85
                      refine hB _ _ _ _ _ (fun m86 hm86 => ?_)
                      dsimp only [ugo, uwp, ust, uct, rfd, BcloseTry, Nat.beq, lv_args, rlk, rs1, rs2, rdl, rky, rcd, rno, rsw, Value.category, List.filter, List.take, List.drop, List.reverse, List.reverseAux, List.cons_append, List.nil_append, Option.toList, Int.toNat, Int.reduceToNat, if_pos, if_neg, reduceIte, ↓reduceIte, Nat.reduceAdd, Nat.reduceEqDiff, Nat.reduceBEq, beq_self_eq_true, Bool.not_true, Bool.not_false, Bool.and_true, Bool.and_false, Bool.true_and, Bool.false_and, gI_sI, gI_sL, gI_sA, gI_sM, gL_sI, gL_sL, gL_sA, gL_sM, aI_sI, aI_sL, aI_sA, aI_sM, aL_sI, aL_sL, aL_sA, aL_sM, BcloseTry_0, BcloseTry_26, BcloseTry_35, BcloseTry_59, BcloseTry_68, BcloseTry_70, BcloseTry_83, BcloseTry_88, BcloseTry_116, BcloseTry_125, BcloseTry_127, BcloseTry_136, BcloseTry_147, BcloseTry_151, BcloseTry_152, BcloseTry_153, BcloseTry_159, BcloseTry_168, BcloseTry_192, BcloseTry_194, BcloseTry_203, BcloseTry_214, BcloseTry_218, BcloseTry_219, BcloseTry_220, BcloseTry_226, BcloseTry_231, oi_0, oi_1, oi_10, oi_1000, oi_11, oi_123, oi_19, oi_20, oi_3, oi_40, oi_41, oi_45, oi_51, oi_52, oi_53, oi_9, Pu_emit]; try dsimp only
                      refine hB _ _ _ _ _ (fun m87 hm87 => ?_)
                      dsimp only [ugo, uwp, ust, uct, rfd, BcloseTry, Nat.beq, lv_args, rlk, rs1, rs2, rdl, rky, rcd, rno, rsw, Value.category, List.filter, List.take, List.drop, List.reverse, List.reverseAux, List.cons_append, List.nil_append, Option.toList, Int.toNat, Int.reduceToNat, if_pos, if_neg, reduceIte, ↓reduceIte, Nat.reduceAdd, Nat.reduceEqDiff, Nat.reduceBEq, beq_self_eq_true, Bool.not_true, Bool.not_false, Bool.and_true, Bool.and_false, Bool.true_and, Bool.false_and, gI_sI, gI_sL, gI_sA, gI_sM, gL_sI, gL_sL, gL_sA, gL_sM, aI_sI, aI_sL, aI_sA, aI_sM, aL_sI, aL_sL, aL_sA, aL_sM, BcloseTry_0, BcloseTry_26, BcloseTry_35, BcloseTry_59, BcloseTry_68, BcloseTry_70, BcloseTry_83, BcloseTry_88, BcloseTry_116, BcloseTry_125, BcloseTry_127, BcloseTry_136, BcloseTry_147, BcloseTry_151, BcloseTry_152, BcloseTry_153, BcloseTry_159, BcloseTry_168, BcloseTry_192, BcloseTry_194, BcloseTry_203, BcloseTry_214, BcloseTry_218, BcloseTry_219, BcloseTry_220, BcloseTry_226, BcloseTry_231, oi_0, oi_1, oi_10, oi_1000, oi_11, oi_123, oi_19, oi_20, oi_3, oi_40, oi_41, oi_45, oi_51, oi_52, oi_53, oi_9, Pu_emit]; try dsimp only
                      unfold Qv_closeTry
                      try dsimp only
                      exfalso; omega
                    · dsimp only [Option.toList, List.cons_append, List.nil_append, Nat.beq, gI_sI, gI_sL, gI_sA, gI_sM, gL_sI, gL_sL, gL_sA, gL_sM, aI_sI, aI_sL, aI_sA, aI_sM, aL_sI, aL_sL, aL_sA, aL_sM]
                      have hf84 : frR τ84 = (10 : Int) :: _ := hf84
                      refine ⟨fun h88 => absurd h88 (by decide), fun h88 => ?_⟩
                      clear h88
                      refine hB _ _ _ _ _ (fun m89 hm89 => ?_)
                      dsimp only [ugo, uwp, ust, uct, rfd, BcloseTry, Nat.beq, lv_args, rlk, rs1, rs2, rdl, rky, rcd, rno, rsw, Value.category, List.filter, List.take, List.drop, List.reverse, List.reverseAux, List.cons_append, List.nil_append, Option.toList, Int.toNat, Int.reduceToNat, if_pos, if_neg, reduceIte, ↓reduceIte, Nat.reduceAdd, Nat.reduceEqDiff, Nat.reduceBEq, beq_self_eq_true, Bool.not_true, Bool.not_false, Bool.and_true, Bool.and_false, Bool.true_and, Bool.false_and, gI_sI, gI_sL, gI_sA, gI_sM, gL_sI, gL_sL, gL_sA, gL_sM, aI_sI, aI_sL, aI_sA, aI_sM, aL_sI, aL_sL, aL_sA, aL_sM, BcloseTry_0, BcloseTry_26, BcloseTry_35, BcloseTry_59, BcloseTry_68, BcloseTry_70, BcloseTry_83, BcloseTry_88, BcloseTry_116, BcloseTry_125, BcloseTry_127, BcloseTry_136, BcloseTry_147, BcloseTry_151, BcloseTry_152, BcloseTry_153, BcloseTry_159, BcloseTry_168, BcloseTry_192, BcloseTry_194, BcloseTry_203, BcloseTry_214, BcloseTry_218, BcloseTry_219, BcloseTry_220, BcloseTry_226, BcloseTry_231, oi_0, oi_1, oi_10, oi_1000, oi_11, oi_123, oi_19, oi_20, oi_3, oi_40, oi_41, oi_45, oi_51, oi_52, oi_53, oi_9, Pu_emit]; try dsimp only
                      refine hB _ _ _ _ _ (fun m90 hm90 => ?_)
                      dsimp only [ugo, uwp, ust, uct, rfd, BcloseTry, Nat.beq, lv_args, rlk, rs1, rs2, rdl, rky, rcd, rno, rsw, Value.category, List.filter, List.take, List.drop, List.reverse, List.reverseAux, List.cons_append, List.nil_append, Option.toList, Int.toNat, Int.reduceToNat, if_pos, if_neg, reduceIte, ↓reduceIte, Nat.reduceAdd, Nat.reduceEqDiff, Nat.reduceBEq, beq_self_eq_true, Bool.not_true, Bool.not_false, Bool.and_true, Bool.and_false, Bool.true_and, Bool.false_and, gI_sI, gI_sL, gI_sA, gI_sM, gL_sI, gL_sL, gL_sA, gL_sM, aI_sI, aI_sL, aI_sA, aI_sM, aL_sI, aL_sL, aL_sA, aL_sM, BcloseTry_0, BcloseTry_26, BcloseTry_35, BcloseTry_59, BcloseTry_68, BcloseTry_70, BcloseTry_83, BcloseTry_88, BcloseTry_116, BcloseTry_125, BcloseTry_127, BcloseTry_136, BcloseTry_147, BcloseTry_151, BcloseTry_152, BcloseTry_153, BcloseTry_159, BcloseTry_168, BcloseTry_192, BcloseTry_194, BcloseTry_203, BcloseTry_214, BcloseTry_218, BcloseTry_219, BcloseTry_220, BcloseTry_226, BcloseTry_231, oi_0, oi_1, oi_10, oi_1000, oi_11, oi_123, oi_19, oi_20, oi_3, oi_40, oi_41, oi_45, oi_51, oi_52, oi_53, oi_9, Pu_emit]; try dsimp only
                      unfold Qv_closeTry
                      try dsimp only
                      refine Or.inr ⟨rfl, (accY (accY (accY (vadY 3 0 (accY (accY s)))))), n, 1, (by repeat (first | exact hR84 | refine SR.i ?_ rfl | refine SR.a ?_ rfl)), (by repeat (first | exact hg84 | refine FgR.i ?_ rfl | refine FgR.a ?_ rfl)), ?_⟩
                      rw [hFt, ct_9 (by lia), tr1_y (Or.inl hcc), tr2_y hcc, xp_y hc59, hdc, xp_y hc73, xp_y hc78]
                      (simp only [frR_i, frR_a, ne_eq, Nat.reduceEqDiff, not_false_eq_true, hf84, hf78, hf73, hf68, hf59, hf54, hf52])
                      exact (cl_rw10 hnn.2.1).symm
            · refine hB _ _ _ _ _ (fun m91 hm91 => ?_)
              dsimp only [ugo, uwp, ust, uct, rfd, BcloseTry, Nat.beq, lv_args, rlk, rs1, rs2, rdl, rky, rcd, rno, rsw, Value.category, List.filter, List.take, List.drop, List.reverse, List.reverseAux, List.cons_append, List.nil_append, Option.toList, Int.toNat, Int.reduceToNat, if_pos, if_neg, reduceIte, ↓reduceIte, Nat.reduceAdd, Nat.reduceEqDiff, Nat.reduceBEq, beq_self_eq_true, Bool.not_true, Bool.not_false, Bool.and_true, Bool.and_false, Bool.true_and, Bool.false_and, gI_sI, gI_sL, gI_sA, gI_sM, gL_sI, gL_sL, gL_sA, gL_sM, aI_sI, aI_sL, aI_sA, aI_sM, aL_sI, aL_sL, aL_sA, aL_sM, BcloseTry_0, BcloseTry_26, BcloseTry_35, BcloseTry_59, BcloseTry_68, BcloseTry_70, BcloseTry_83, BcloseTry_88, BcloseTry_116, BcloseTry_125, BcloseTry_127, BcloseTry_136, BcloseTry_147, BcloseTry_151, BcloseTry_152, BcloseTry_153, BcloseTry_159, BcloseTry_168, BcloseTry_192, BcloseTry_194, BcloseTry_203, BcloseTry_214, BcloseTry_218, BcloseTry_219, BcloseTry_220, BcloseTry_226, BcloseTry_231, oi_0, oi_1, oi_10, oi_1000, oi_11, oi_123, oi_19, oi_20, oi_3, oi_40, oi_41, oi_45, oi_51, oi_52, oi_53, oi_9, Pu_emit]; try dsimp only
              have hnn8 : ¬ codY (accY (accY s)) = 80 := fun q => h65 ((SR.sh (e := 0) hR59).ki.2.2.1.mpr q)
              refine ⟨trivial, fun w92 τ92 hq92 => ?_⟩
              have hq92 := hq92 (accY (accY s)) (XrR.s (SR.x (e_ := 0) (by repeat (first | exact hR59 | refine SR.i ?_ rfl | refine SR.a ?_ rfl))))
              obtain ⟨rfl, hF92⟩ := hq92
              dsimp only [Option.toList, List.cons_append, List.nil_append, Nat.beq, gI_sI, gI_sL, gI_sA, gI_sM, gL_sI, gL_sL, gL_sA, gL_sM, aI_sI, aI_sL, aI_sA, aI_sM, aL_sI, aL_sL, aL_sA, aL_sM]
              unfold Qv_closeTry
              try dsimp only
              rw [hFt, ct_9 (by lia), tr1_y (Or.inl hcc), tr2_y hcc, xp_y hc59, dcl_n hnn8]
              refine StQ.f hF92 ?_
              exact (by repeat (first | with_reducible exact GpY.rf | with_reducible refine GpY.tr ?_ (gd_fo _) | with_reducible refine GpY.tr ?_ (gd_ef _) | with_reducible refine GpY.tr ?_ (gd_cf _) | with_reducible refine GpY.tr ?_ (gd_wt _) | with_reducible refine GpY.tr ?_ (gd_xp _) | with_reducible refine GpY.tr ?_ (gd_acc _) | with_reducible refine GpY.tr ?_ (gd_rai _) | with_reducible refine GpY.tr ?_ (gd_e _) | with_reducible refine GpY.tr ?_ (gd_o _) | with_reducible refine GpY.tr ?_ (gd_c _) | with_reducible refine GpY.tr ?_ (gd_op _) | with_reducible refine GpY.tr ?_ (gd_clp gd_e _ _) | with_reducible refine GpY.tr ?_ (gd_tl _) | with_reducible refine GpY.tr ?_ (gd_sf _ _ _) | with_reducible refine GpY.tr ?_ (gd_cl _) | with_reducible refine GpY.tr ?_ (gd_pc _) | with_reducible refine GpY.tr ?_ (gd_st _) | with_reducible refine GpY.tr ?_ (gd_rw _) | with_reducible refine GpY.tr ?_ (gd_typ _) | with_reducible refine GpY.tr ?_ (gd_dcl _) | with_reducible refine GpY.tr ?_ (gd_va2 _) | with_reducible refine GpY.tr ?_ (gd_cnd _) | with_reducible refine GpY.tr ?_ (gd_tr1 _) | with_reducible refine GpY.tr ?_ (gd_tr2 (fun _ => gd_rw) _) | with_reducible refine GpY.tr ?_ (gd_tr3 (fun _ => gd_rw) _) | with_reducible refine GpY.tr ?_ (gd_fo1 _) | with_reducible refine GpY.tr ?_ (gd_fo2 _) | with_reducible refine GpY.tr ?_ (gd_fo3 _) | with_reducible refine GpY.tr ?_ (gd_fex _) | with_reducible refine GpY.tr ?_ (pg_var.1) | with_reducible refine GpY.tr ?_ (pg_cas.1) | exact GpY.rf))
      · dsimp only [Option.toList, List.cons_append, List.nil_append, Nat.beq, gI_sI, gI_sL, gI_sA, gI_sM, gL_sI, gL_sL, gL_sA, gL_sM, aI_sI, aI_sL, aI_sA, aI_sM, aL_sI, aL_sL, aL_sA, aL_sM]
        have hc49 : ¬ codY s = 69 := fun q => hk49 (he49.mpr q)
        refine ⟨fun h93 => ?_, fun h93 => absurd h93 (by decide)⟩
        clear h93
        refine hB _ _ _ _ _ (fun m94 hm94 => ?_)
        dsimp only [ugo, uwp, ust, uct, rfd, BcloseTry, Nat.beq, lv_args, rlk, rs1, rs2, rdl, rky, rcd, rno, rsw, Value.category, List.filter, List.take, List.drop, List.reverse, List.reverseAux, List.cons_append, List.nil_append, Option.toList, Int.toNat, Int.reduceToNat, if_pos, if_neg, reduceIte, ↓reduceIte, Nat.reduceAdd, Nat.reduceEqDiff, Nat.reduceBEq, beq_self_eq_true, Bool.not_true, Bool.not_false, Bool.and_true, Bool.and_false, Bool.true_and, Bool.false_and, gI_sI, gI_sL, gI_sA, gI_sM, gL_sI, gL_sL, gL_sA, gL_sM, aI_sI, aI_sL, aI_sA, aI_sM, aL_sI, aL_sL, aL_sA, aL_sM, BcloseTry_0, BcloseTry_26, BcloseTry_35, BcloseTry_59, BcloseTry_68, BcloseTry_70, BcloseTry_83, BcloseTry_88, BcloseTry_116, BcloseTry_125, BcloseTry_127, BcloseTry_136, BcloseTry_147, BcloseTry_151, BcloseTry_152, BcloseTry_153, BcloseTry_159, BcloseTry_168, BcloseTry_192, BcloseTry_194, BcloseTry_203, BcloseTry_214, BcloseTry_218, BcloseTry_219, BcloseTry_220, BcloseTry_226, BcloseTry_231, oi_0, oi_1, oi_10, oi_1000, oi_11, oi_123, oi_19, oi_20, oi_3, oi_40, oi_41, oi_45, oi_51, oi_52, oi_53, oi_9, Pu_emit]; try dsimp only
        refine ⟨fun h95 => ?_, fun h95 => ?_⟩
        · exfalso; lia
        · refine hB _ _ _ _ _ (fun m96 hm96 => ?_)
          dsimp only [ugo, uwp, ust, uct, rfd, BcloseTry, Nat.beq, lv_args, rlk, rs1, rs2, rdl, rky, rcd, rno, rsw, Value.category, List.filter, List.take, List.drop, List.reverse, List.reverseAux, List.cons_append, List.nil_append, Option.toList, Int.toNat, Int.reduceToNat, if_pos, if_neg, reduceIte, ↓reduceIte, Nat.reduceAdd, Nat.reduceEqDiff, Nat.reduceBEq, beq_self_eq_true, Bool.not_true, Bool.not_false, Bool.and_true, Bool.and_false, Bool.true_and, Bool.false_and, gI_sI, gI_sL, gI_sA, gI_sM, gL_sI, gL_sL, gL_sA, gL_sM, aI_sI, aI_sL, aI_sA, aI_sM, aL_sI, aL_sL, aL_sA, aL_sM, BcloseTry_0, BcloseTry_26, BcloseTry_35, BcloseTry_59, BcloseTry_68, BcloseTry_70, BcloseTry_83, BcloseTry_88, BcloseTry_116, BcloseTry_125, BcloseTry_127, BcloseTry_136, BcloseTry_147, BcloseTry_151, BcloseTry_152, BcloseTry_153, BcloseTry_159, BcloseTry_168, BcloseTry_192, BcloseTry_194, BcloseTry_203, BcloseTry_214, BcloseTry_218, BcloseTry_219, BcloseTry_220, BcloseTry_226, BcloseTry_231, oi_0, oi_1, oi_10, oi_1000, oi_11, oi_123, oi_19, oi_20, oi_3, oi_40, oi_41, oi_45, oi_51, oi_52, oi_53, oi_9, Pu_emit]; try dsimp only
          refine ⟨trivial, fun w97 τ97 hq97 => ?_⟩
          obtain ⟨rfl, b97, rfl, hb97⟩ := hq97 trivial
          have he97 := (XrR.s (SR.x (e_ := 0) (by repeat (first | exact hRp | refine SR.i ?_ rfl | refine SR.a ?_ rfl)))).wd (x := 20) (by decide)
          rcases hb97 with ⟨rfl, hk97⟩ | ⟨rfl, hk97⟩
          · dsimp only [Option.toList, List.cons_append, List.nil_append, Nat.beq, gI_sI, gI_sL, gI_sA, gI_sM, gL_sI, gL_sL, gL_sA, gL_sM, aI_sI, aI_sL, aI_sA, aI_sM, aL_sI, aL_sL, aL_sA, aL_sM]
            have hc97 : codY s = 70 := he97.mp hk97
            refine ⟨fun h98 => absurd h98 (by decide), fun h98 => ?_⟩
            clear h98
            refine hB _ _ _ _ _ (fun m99 hm99 => ?_)
            dsimp only [ugo, uwp, ust, uct, rfd, BcloseTry, Nat.beq, lv_args, rlk, rs1, rs2, rdl, rky, rcd, rno, rsw, Value.category, List.filter, List.take, List.drop, List.reverse, List.reverseAux, List.cons_append, List.nil_append, Option.toList, Int.toNat, Int.reduceToNat, if_pos, if_neg, reduceIte, ↓reduceIte, Nat.reduceAdd, Nat.reduceEqDiff, Nat.reduceBEq, beq_self_eq_true, Bool.not_true, Bool.not_false, Bool.and_true, Bool.and_false, Bool.true_and, Bool.false_and, gI_sI, gI_sL, gI_sA, gI_sM, gL_sI, gL_sL, gL_sA, gL_sM, aI_sI, aI_sL, aI_sA, aI_sM, aL_sI, aL_sL, aL_sA, aL_sM, BcloseTry_0, BcloseTry_26, BcloseTry_35, BcloseTry_59, BcloseTry_68, BcloseTry_70, BcloseTry_83, BcloseTry_88, BcloseTry_116, BcloseTry_125, BcloseTry_127, BcloseTry_136, BcloseTry_147, BcloseTry_151, BcloseTry_152, BcloseTry_153, BcloseTry_159, BcloseTry_168, BcloseTry_192, BcloseTry_194, BcloseTry_203, BcloseTry_214, BcloseTry_218, BcloseTry_219, BcloseTry_220, BcloseTry_226, BcloseTry_231, oi_0, oi_1, oi_10, oi_1000, oi_11, oi_123, oi_19, oi_20, oi_3, oi_40, oi_41, oi_45, oi_51, oi_52, oi_53, oi_9, Pu_emit]; try dsimp only
            have hcf : codY s = 70 := hc97
            refine ⟨trivial, fun w100 τ100 hq100 => ?_⟩
            obtain ⟨rfl, hE100⟩ := hq100
            have hR100 := SR.em (e_ := 0) (s := s) (n := (n + 1)) (by repeat (first | exact hRp | refine SR.i ?_ rfl | refine SR.a ?_ rfl)) hE100
            have hg100 := FgR.em (e_ := 0) (by repeat (first | exact hgp | refine FgR.i ?_ rfl | refine FgR.a ?_ rfl)) (s := s) (n := (n + 1)) (by repeat (first | exact hRp | refine SR.i ?_ rfl | refine SR.a ?_ rfl)) hE100
            have hf100 := frR_em hE100
            dsimp only [Option.toList, List.cons_append, List.nil_append, Nat.beq, gI_sI, gI_sL, gI_sA, gI_sM, gL_sI, gL_sL, gL_sA, gL_sM, aI_sI, aI_sL, aI_sA, aI_sM, aL_sI, aL_sL, aL_sA, aL_sM]
            have k6_100 : 0 < gI τ100 36 := by rw [hE100.1 36 (by decide)]; exact hm6
            have k9_100 : nT k < nT (gI τ100 49) := by rw [hE100.1 49 (by decide)]; exact hk
            intro p101
            refine ⟨trivial, fun w102 τ102 hq102 => ?_⟩
            have hq102 := hq102 _ s (n + 1) ⟨(SR.x (e_ := 0) (by repeat (first | exact hR100 | refine SR.i ?_ rfl | refine SR.a ?_ rfl))), by omega, by omega⟩
            rcases hq102 with ⟨rfl, hF102⟩ | ⟨rfl, hX102, hz102, hS102⟩
            · dsimp only [Option.toList, List.cons_append, List.nil_append, Nat.beq, gI_sI, gI_sL, gI_sA, gI_sM, gL_sI, gL_sL, gL_sA, gL_sM, aI_sI, aI_sL, aI_sA, aI_sM, aL_sI, aL_sL, aL_sA, aL_sM]
              refine ⟨fun h103 => absurd h103 (by decide), fun h103 => ?_⟩
              clear h103
              refine hB _ _ _ _ _ (fun m104 hm104 => ?_)
              dsimp only [ugo, uwp, ust, uct, rfd, BcloseTry, Nat.beq, lv_args, rlk, rs1, rs2, rdl, rky, rcd, rno, rsw, Value.category, List.filter, List.take, List.drop, List.reverse, List.reverseAux, List.cons_append, List.nil_append, Option.toList, Int.toNat, Int.reduceToNat, if_pos, if_neg, reduceIte, ↓reduceIte, Nat.reduceAdd, Nat.reduceEqDiff, Nat.reduceBEq, beq_self_eq_true, Bool.not_true, Bool.not_false, Bool.and_true, Bool.and_false, Bool.true_and, Bool.false_and, gI_sI, gI_sL, gI_sA, gI_sM, gL_sI, gL_sL, gL_sA, gL_sM, aI_sI, aI_sL, aI_sA, aI_sM, aL_sI, aL_sL, aL_sA, aL_sM, BcloseTry_0, BcloseTry_26, BcloseTry_35, BcloseTry_59, BcloseTry_68, BcloseTry_70, BcloseTry_83, BcloseTry_88, BcloseTry_116, BcloseTry_125, BcloseTry_127, BcloseTry_136, BcloseTry_147, BcloseTry_151, BcloseTry_152, BcloseTry_153, BcloseTry_159, BcloseTry_168, BcloseTry_192, BcloseTry_194, BcloseTry_203, BcloseTry_214, BcloseTry_218, BcloseTry_219, BcloseTry_220, BcloseTry_226, BcloseTry_231, oi_0, oi_1, oi_10, oi_1000, oi_11, oi_123, oi_19, oi_20, oi_3, oi_40, oi_41, oi_45, oi_51, oi_52, oi_53, oi_9, Pu_emit]; try dsimp only
              unfold Qv_closeTry
              try dsimp only
              rw [hFt, ct_9 (by lia), tr1_y (Or.inr hcf), tr2_n (by omega), tr3_y hcf]
              refine StQ.f hF102 ?_
              exact (by repeat (first | with_reducible exact GpY.rf | with_reducible refine GpY.tr ?_ (gd_fo _) | with_reducible refine GpY.tr ?_ (gd_ef _) | with_reducible refine GpY.tr ?_ (gd_cf _) | with_reducible refine GpY.tr ?_ (gd_wt _) | with_reducible refine GpY.tr ?_ (gd_xp _) | with_reducible refine GpY.tr ?_ (gd_acc _) | with_reducible refine GpY.tr ?_ (gd_rai _) | with_reducible refine GpY.tr ?_ (gd_e _) | with_reducible refine GpY.tr ?_ (gd_o _) | with_reducible refine GpY.tr ?_ (gd_c _) | with_reducible refine GpY.tr ?_ (gd_op _) | with_reducible refine GpY.tr ?_ (gd_clp gd_e _ _) | with_reducible refine GpY.tr ?_ (gd_tl _) | with_reducible refine GpY.tr ?_ (gd_sf _ _ _) | with_reducible refine GpY.tr ?_ (gd_cl _) | with_reducible refine GpY.tr ?_ (gd_pc _) | with_reducible refine GpY.tr ?_ (gd_st _) | with_reducible refine GpY.tr ?_ (gd_rw _) | with_reducible refine GpY.tr ?_ (gd_typ _) | with_reducible refine GpY.tr ?_ (gd_dcl _) | with_reducible refine GpY.tr ?_ (gd_va2 _) | with_reducible refine GpY.tr ?_ (gd_cnd _) | with_reducible refine GpY.tr ?_ (gd_tr1 _) | with_reducible refine GpY.tr ?_ (gd_tr2 (fun _ => gd_rw) _) | with_reducible refine GpY.tr ?_ (gd_tr3 (fun _ => gd_rw) _) | with_reducible refine GpY.tr ?_ (gd_fo1 _) | with_reducible refine GpY.tr ?_ (gd_fo2 _) | with_reducible refine GpY.tr ?_ (gd_fo3 _) | with_reducible refine GpY.tr ?_ (gd_fex _) | with_reducible refine GpY.tr ?_ (pg_var.1) | with_reducible refine GpY.tr ?_ (pg_cas.1) | exact GpY.rf))
            · dsimp only [Option.toList, List.cons_append, List.nil_append, Nat.beq, gI_sI, gI_sL, gI_sA, gI_sM, gL_sI, gL_sL, gL_sA, gL_sM, aI_sI, aI_sL, aI_sA, aI_sM, aL_sI, aL_sL, aL_sA, aL_sM]
              have hR102 := SR.kr (e_ := 0) (by repeat (first | exact hR100 | refine SR.i ?_ rfl | refine SR.a ?_ rfl)) hX102 acc2
              have hg102 := FgR.kr (e_ := 0) (s := s) (n := (n + 1)) (by repeat (first | exact hg100 | refine FgR.i ?_ rfl | refine FgR.a ?_ rfl)) (by repeat (first | exact hR100 | refine SR.i ?_ rfl | refine SR.a ?_ rfl)) hX102
              have hf102 := frR_kr hX102
              have k6_102 : 0 < gI τ102 36 := by rw [hX102.2.2.1.1 36 rfl]; exact k6_100
              have k9_102 : nT k < nT (gI τ102 49) := by rw [hX102.2.2.1.1 49 rfl]; exact k9_100
              refine ⟨fun h105 => ?_, fun h105 => absurd h105 (by decide)⟩
              clear h105
              refine hB _ _ _ _ _ (fun m106 hm106 => ?_)
              dsimp only [ugo, uwp, ust, uct, rfd, BcloseTry, Nat.beq, lv_args, rlk, rs1, rs2, rdl, rky, rcd, rno, rsw, Value.category, List.filter, List.take, List.drop, List.reverse, List.reverseAux, List.cons_append, List.nil_append, Option.toList, Int.toNat, Int.reduceToNat, if_pos, if_neg, reduceIte, ↓reduceIte, Nat.reduceAdd, Nat.reduceEqDiff, Nat.reduceBEq, beq_self_eq_true, Bool.not_true, Bool.not_false, Bool.and_true, Bool.and_false, Bool.true_and, Bool.false_and, gI_sI, gI_sL, gI_sA, gI_sM, gL_sI, gL_sL, gL_sA, gL_sM, aI_sI, aI_sL, aI_sA, aI_sM, aL_sI, aL_sL, aL_sA, aL_sM, BcloseTry_0, BcloseTry_26, BcloseTry_35, BcloseTry_59, BcloseTry_68, BcloseTry_70, BcloseTry_83, BcloseTry_88, BcloseTry_116, BcloseTry_125, BcloseTry_127, BcloseTry_136, BcloseTry_147, BcloseTry_151, BcloseTry_152, BcloseTry_153, BcloseTry_159, BcloseTry_168, BcloseTry_192, BcloseTry_194, BcloseTry_203, BcloseTry_214, BcloseTry_218, BcloseTry_219, BcloseTry_220, BcloseTry_226, BcloseTry_231, oi_0, oi_1, oi_10, oi_1000, oi_11, oi_123, oi_19, oi_20, oi_3, oi_40, oi_41, oi_45, oi_51, oi_52, oi_53, oi_9, Pu_emit]; try dsimp only
              refine ⟨trivial, fun w107 τ107 hq107 => ?_⟩
              have hq107 := hq107 _ (accY s) (n + 1) 2 ⟨(SR.x (e_ := 0) (by repeat (first | exact hR102 | refine SR.i ?_ rfl | refine SR.a ?_ rfl))), by decide⟩
              rcases hq107 with ⟨rfl, hF107⟩ | ⟨rfl, hc107, hX107, hz107, hS107⟩
              · dsimp only [Option.toList, List.cons_append, List.nil_append, Nat.beq, gI_sI, gI_sL, gI_sA, gI_sM, gL_sI, gL_sL, gL_sA, gL_sM, aI_sI, aI_sL, aI_sA, aI_sM, aL_sI, aL_sL, aL_sA, aL_sM]
                refine ⟨fun h108 => ?_, fun h108 => absurd h108 (by decide)⟩
                clear h108
                refine hB _ _ _ _ _ (fun m109 hm109 => ?_)
                dsimp only [ugo, uwp, ust, uct, rfd, BcloseTry, Nat.beq, lv_args, rlk, rs1, rs2, rdl, rky, rcd, rno, rsw, Value.category, List.filter, List.take, List.drop, List.reverse, List.reverseAux, List.cons_append, List.nil_append, Option.toList, Int.toNat, Int.reduceToNat, if_pos, if_neg, reduceIte, ↓reduceIte, Nat.reduceAdd, Nat.reduceEqDiff, Nat.reduceBEq, beq_self_eq_true, Bool.not_true, Bool.not_false, Bool.and_true, Bool.and_false, Bool.true_and, Bool.false_and, gI_sI, gI_sL, gI_sA, gI_sM, gL_sI, gL_sL, gL_sA, gL_sM, aI_sI, aI_sL, aI_sA, aI_sM, aL_sI, aL_sL, aL_sA, aL_sM, BcloseTry_0, BcloseTry_26, BcloseTry_35, BcloseTry_59, BcloseTry_68, BcloseTry_70, BcloseTry_83, BcloseTry_88, BcloseTry_116, BcloseTry_125, BcloseTry_127, BcloseTry_136, BcloseTry_147, BcloseTry_151, BcloseTry_152, BcloseTry_153, BcloseTry_159, BcloseTry_168, BcloseTry_192, BcloseTry_194, BcloseTry_203, BcloseTry_214, BcloseTry_218, BcloseTry_219, BcloseTry_220, BcloseTry_226, BcloseTry_231, oi_0, oi_1, oi_10, oi_1000, oi_11, oi_123, oi_19, oi_20, oi_3, oi_40, oi_41, oi_45, oi_51, oi_52, oi_53, oi_9, Pu_emit]; try dsimp only
                refine hB _ _ _ _ _ (fun m110 hm110 => ?_)
                dsimp only [ugo, uwp, ust, uct, rfd, BcloseTry, Nat.beq, lv_args, rlk, rs1, rs2, rdl, rky, rcd, rno, rsw, Value.category, List.filter, List.take, List.drop, List.reverse, List.reverseAux, List.cons_append, List.nil_append, Option.toList, Int.toNat, Int.reduceToNat, if_pos, if_neg, reduceIte, ↓reduceIte, Nat.reduceAdd, Nat.reduceEqDiff, Nat.reduceBEq, beq_self_eq_true, Bool.not_true, Bool.not_false, Bool.and_true, Bool.and_false, Bool.true_and, Bool.false_and, gI_sI, gI_sL, gI_sA, gI_sM, gL_sI, gL_sL, gL_sA, gL_sM, aI_sI, aI_sL, aI_sA, aI_sM, aL_sI, aL_sL, aL_sA, aL_sM, BcloseTry_0, BcloseTry_26, BcloseTry_35, BcloseTry_59, BcloseTry_68, BcloseTry_70, BcloseTry_83, BcloseTry_88, BcloseTry_116, BcloseTry_125, BcloseTry_127, BcloseTry_136, BcloseTry_147, BcloseTry_151, BcloseTry_152, BcloseTry_153, BcloseTry_159, BcloseTry_168, BcloseTry_192, BcloseTry_194, BcloseTry_203, BcloseTry_214, BcloseTry_218, BcloseTry_219, BcloseTry_220, BcloseTry_226, BcloseTry_231, oi_0, oi_1, oi_10, oi_1000, oi_11, oi_123, oi_19, oi_20, oi_3, oi_40, oi_41, oi_45, oi_51, oi_52, oi_53, oi_9, Pu_emit]; try dsimp only
                unfold Qv_closeTry
                try dsimp only
                rw [hFt, ct_9 (by lia), tr1_y (Or.inr hcf), tr2_n (by omega), tr3_y hcf]
                refine StQ.f hF107 ?_
                exact (by repeat (first | with_reducible exact GpY.rf | with_reducible refine GpY.tr ?_ (gd_fo _) | with_reducible refine GpY.tr ?_ (gd_ef _) | with_reducible refine GpY.tr ?_ (gd_cf _) | with_reducible refine GpY.tr ?_ (gd_wt _) | with_reducible refine GpY.tr ?_ (gd_xp _) | with_reducible refine GpY.tr ?_ (gd_acc _) | with_reducible refine GpY.tr ?_ (gd_rai _) | with_reducible refine GpY.tr ?_ (gd_e _) | with_reducible refine GpY.tr ?_ (gd_o _) | with_reducible refine GpY.tr ?_ (gd_c _) | with_reducible refine GpY.tr ?_ (gd_op _) | with_reducible refine GpY.tr ?_ (gd_clp gd_e _ _) | with_reducible refine GpY.tr ?_ (gd_tl _) | with_reducible refine GpY.tr ?_ (gd_sf _ _ _) | with_reducible refine GpY.tr ?_ (gd_cl _) | with_reducible refine GpY.tr ?_ (gd_pc _) | with_reducible refine GpY.tr ?_ (gd_st _) | with_reducible refine GpY.tr ?_ (gd_rw _) | with_reducible refine GpY.tr ?_ (gd_typ _) | with_reducible refine GpY.tr ?_ (gd_dcl _) | with_reducible refine GpY.tr ?_ (gd_va2 _) | with_reducible refine GpY.tr ?_ (gd_cnd _) | with_reducible refine GpY.tr ?_ (gd_tr1 _) | with_reducible refine GpY.tr ?_ (gd_tr2 (fun _ => gd_rw) _) | with_reducible refine GpY.tr ?_ (gd_tr3 (fun _ => gd_rw) _) | with_reducible refine GpY.tr ?_ (gd_fo1 _) | with_reducible refine GpY.tr ?_ (gd_fo2 _) | with_reducible refine GpY.tr ?_ (gd_fo3 _) | with_reducible refine GpY.tr ?_ (gd_fex _) | with_reducible refine GpY.tr ?_ (pg_var.1) | with_reducible refine GpY.tr ?_ (pg_cas.1) | exact GpY.rf))
              · dsimp only [Option.toList, List.cons_append, List.nil_append, Nat.beq, gI_sI, gI_sL, gI_sA, gI_sM, gL_sI, gL_sL, gL_sA, gL_sM, aI_sI, aI_sL, aI_sA, aI_sM, aL_sI, aL_sL, aL_sA, aL_sM]
                have hR107 := SR.kr (e_ := 0) (by repeat (first | exact hR102 | refine SR.i ?_ rfl | refine SR.a ?_ rfl)) hX107 acc2
                have hg107 := FgR.kr (e_ := 0) (s := (accY s)) (n := (n + 1)) (by repeat (first | exact hg102 | refine FgR.i ?_ rfl | refine FgR.a ?_ rfl)) (by repeat (first | exact hR102 | refine SR.i ?_ rfl | refine SR.a ?_ rfl)) hX107
                have hf107 := frR_kr hX107
                have k6_107 : 0 < gI τ107 36 := by rw [hX107.2.2.1.1 36 rfl]; exact k6_102
                have k9_107 : nT k < nT (gI τ107 49) := by rw [hX107.2.2.1.1 49 rfl]; exact k9_102
                refine ⟨fun h111 => absurd h111 (by decide), fun h111 => ?_⟩
                clear h111
                refine hB _ _ _ _ _ (fun m112 hm112 => ?_)
                dsimp only [ugo, uwp, ust, uct, rfd, BcloseTry, Nat.beq, lv_args, rlk, rs1, rs2, rdl, rky, rcd, rno, rsw, Value.category, List.filter, List.take, List.drop, List.reverse, List.reverseAux, List.cons_append, List.nil_append, Option.toList, Int.toNat, Int.reduceToNat, if_pos, if_neg, reduceIte, ↓reduceIte, Nat.reduceAdd, Nat.reduceEqDiff, Nat.reduceBEq, beq_self_eq_true, Bool.not_true, Bool.not_false, Bool.and_true, Bool.and_false, Bool.true_and, Bool.false_and, gI_sI, gI_sL, gI_sA, gI_sM, gL_sI, gL_sL, gL_sA, gL_sM, aI_sI, aI_sL, aI_sA, aI_sM, aL_sI, aL_sL, aL_sA, aL_sM, BcloseTry_0, BcloseTry_26, BcloseTry_35, BcloseTry_59, BcloseTry_68, BcloseTry_70, BcloseTry_83, BcloseTry_88, BcloseTry_116, BcloseTry_125, BcloseTry_127, BcloseTry_136, BcloseTry_147, BcloseTry_151, BcloseTry_152, BcloseTry_153, BcloseTry_159, BcloseTry_168, BcloseTry_192, BcloseTry_194, BcloseTry_203, BcloseTry_214, BcloseTry_218, BcloseTry_219, BcloseTry_220, BcloseTry_226, BcloseTry_231, oi_0, oi_1, oi_10, oi_1000, oi_11, oi_123, oi_19, oi_20, oi_3, oi_40, oi_41, oi_45, oi_51, oi_52, oi_53, oi_9, Pu_emit]; try dsimp only
                refine ⟨trivial, fun w113 τ113 hq113 => ?_⟩
                have hq113 := hq113 (accY (accY s)) (n + 1) ⟨(by repeat (first | exact hR107 | refine SR.i ?_ rfl | refine SR.a ?_ rfl)), (by repeat (first | exact hg107 | refine FgR.i ?_ rfl | refine FgR.a ?_ rfl)), k9_107, by decide, (iff_of_false (by decide) (by (try simp only [frR_i, frR_a, ne_eq, Nat.reduceEqDiff, not_false_eq_true, hf107, hf102, hf100]); exact hnet)), k6_107, (fun q => absurd q (by decide))⟩
                rcases hq113 with ⟨rfl, hn113, hF113⟩ | ⟨rfl, hn113, hR113, hg113, hf113⟩
                · dsimp only [Option.toList, List.cons_append, List.nil_append, Nat.beq, gI_sI, gI_sL, gI_sA, gI_sM, gL_sI, gL_sL, gL_sA, gL_sM, aI_sI, aI_sL, aI_sA, aI_sM, aL_sI, aL_sL, aL_sA, aL_sM]
                  refine ⟨fun h114 => ?_, fun h114 => absurd h114 (by decide)⟩
                  clear h114
                  refine hB _ _ _ _ _ (fun m115 hm115 => ?_)
                  dsimp only [ugo, uwp, ust, uct, rfd, BcloseTry, Nat.beq, lv_args, rlk, rs1, rs2, rdl, rky, rcd, rno, rsw, Value.category, List.filter, List.take, List.drop, List.reverse, List.reverseAux, List.cons_append, List.nil_append, Option.toList, Int.toNat, Int.reduceToNat, if_pos, if_neg, reduceIte, ↓reduceIte, Nat.reduceAdd, Nat.reduceEqDiff, Nat.reduceBEq, beq_self_eq_true, Bool.not_true, Bool.not_false, Bool.and_true, Bool.and_false, Bool.true_and, Bool.false_and, gI_sI, gI_sL, gI_sA, gI_sM, gL_sI, gL_sL, gL_sA, gL_sM, aI_sI, aI_sL, aI_sA, aI_sM, aL_sI, aL_sL, aL_sA, aL_sM, BcloseTry_0, BcloseTry_26, BcloseTry_35, BcloseTry_59, BcloseTry_68, BcloseTry_70, BcloseTry_83, BcloseTry_88, BcloseTry_116, BcloseTry_125, BcloseTry_127, BcloseTry_136, BcloseTry_147, BcloseTry_151, BcloseTry_152, BcloseTry_153, BcloseTry_159, BcloseTry_168, BcloseTry_192, BcloseTry_194, BcloseTry_203, BcloseTry_214, BcloseTry_218, BcloseTry_219, BcloseTry_220, BcloseTry_226, BcloseTry_231, oi_0, oi_1, oi_10, oi_1000, oi_11, oi_123, oi_19, oi_20, oi_3, oi_40, oi_41, oi_45, oi_51, oi_52, oi_53, oi_9, Pu_emit]; try dsimp only
                  refine hB _ _ _ _ _ (fun m116 hm116 => ?_)
                  dsimp only [ugo, uwp, ust, uct, rfd, BcloseTry, Nat.beq, lv_args, rlk, rs1, rs2, rdl, rky, rcd, rno, rsw, Value.category, List.filter, List.take, List.drop, List.reverse, List.reverseAux, List.cons_append, List.nil_append, Option.toList, Int.toNat, Int.reduceToNat, if_pos, if_neg, reduceIte, ↓reduceIte, Nat.reduceAdd, Nat.reduceEqDiff, Nat.reduceBEq, beq_self_eq_true, Bool.not_true, Bool.not_false, Bool.and_true, Bool.and_false, Bool.true_and, Bool.false_and, gI_sI, gI_sL, gI_sA, gI_sM, gL_sI, gL_sL, gL_sA, gL_sM, aI_sI, aI_sL, aI_sA, aI_sM, aL_sI, aL_sL, aL_sA, aL_sM, BcloseTry_0, BcloseTry_26, BcloseTry_35, BcloseTry_59, BcloseTry_68, BcloseTry_70, BcloseTry_83, BcloseTry_88, BcloseTry_116, BcloseTry_125, BcloseTry_127, BcloseTry_136, BcloseTry_147, BcloseTry_151, BcloseTry_152, BcloseTry_153, BcloseTry_159, BcloseTry_168, BcloseTry_192, BcloseTry_194, BcloseTry_203, BcloseTry_214, BcloseTry_218, BcloseTry_219, BcloseTry_220, BcloseTry_226, BcloseTry_231, oi_0, oi_1, oi_10, oi_1000, oi_11, oi_123, oi_19, oi_20, oi_3, oi_40, oi_41, oi_45, oi_51, oi_52, oi_53, oi_9, Pu_emit]; try dsimp only
                  unfold Qv_closeTry
                  try dsimp only
                  exfalso; omega
                · dsimp only [Option.toList, List.cons_append, List.nil_append, Nat.beq, gI_sI, gI_sL, gI_sA, gI_sM, gL_sI, gL_sL, gL_sA, gL_sM, aI_sI, aI_sL, aI_sA, aI_sM, aL_sI, aL_sL, aL_sA, aL_sM]
                  have hf113 : frR τ113 = (11 : Int) :: _ := hf113
                  refine ⟨fun h117 => absurd h117 (by decide), fun h117 => ?_⟩
                  clear h117
                  refine hB _ _ _ _ _ (fun m118 hm118 => ?_)
                  dsimp only [ugo, uwp, ust, uct, rfd, BcloseTry, Nat.beq, lv_args, rlk, rs1, rs2, rdl, rky, rcd, rno, rsw, Value.category, List.filter, List.take, List.drop, List.reverse, List.reverseAux, List.cons_append, List.nil_append, Option.toList, Int.toNat, Int.reduceToNat, if_pos, if_neg, reduceIte, ↓reduceIte, Nat.reduceAdd, Nat.reduceEqDiff, Nat.reduceBEq, beq_self_eq_true, Bool.not_true, Bool.not_false, Bool.and_true, Bool.and_false, Bool.true_and, Bool.false_and, gI_sI, gI_sL, gI_sA, gI_sM, gL_sI, gL_sL, gL_sA, gL_sM, aI_sI, aI_sL, aI_sA, aI_sM, aL_sI, aL_sL, aL_sA, aL_sM, BcloseTry_0, BcloseTry_26, BcloseTry_35, BcloseTry_59, BcloseTry_68, BcloseTry_70, BcloseTry_83, BcloseTry_88, BcloseTry_116, BcloseTry_125, BcloseTry_127, BcloseTry_136, BcloseTry_147, BcloseTry_151, BcloseTry_152, BcloseTry_153, BcloseTry_159, BcloseTry_168, BcloseTry_192, BcloseTry_194, BcloseTry_203, BcloseTry_214, BcloseTry_218, BcloseTry_219, BcloseTry_220, BcloseTry_226, BcloseTry_231, oi_0, oi_1, oi_10, oi_1000, oi_11, oi_123, oi_19, oi_20, oi_3, oi_40, oi_41, oi_45, oi_51, oi_52, oi_53, oi_9, Pu_emit]; try dsimp only
                  refine hB _ _ _ _ _ (fun m119 hm119 => ?_)
                  dsimp only [ugo, uwp, ust, uct, rfd, BcloseTry, Nat.beq, lv_args, rlk, rs1, rs2, rdl, rky, rcd, rno, rsw, Value.category, List.filter, List.take, List.drop, List.reverse, List.reverseAux, List.cons_append, List.nil_append, Option.toList, Int.toNat, Int.reduceToNat, if_pos, if_neg, reduceIte, ↓reduceIte, Nat.reduceAdd, Nat.reduceEqDiff, Nat.reduceBEq, beq_self_eq_true, Bool.not_true, Bool.not_false, Bool.and_true, Bool.and_false, Bool.true_and, Bool.false_and, gI_sI, gI_sL, gI_sA, gI_sM, gL_sI, gL_sL, gL_sA, gL_sM, aI_sI, aI_sL, aI_sA, aI_sM, aL_sI, aL_sL, aL_sA, aL_sM, BcloseTry_0, BcloseTry_26, BcloseTry_35, BcloseTry_59, BcloseTry_68, BcloseTry_70, BcloseTry_83, BcloseTry_88, BcloseTry_116, BcloseTry_125, BcloseTry_127, BcloseTry_136, BcloseTry_147, BcloseTry_151, BcloseTry_152, BcloseTry_153, BcloseTry_159, BcloseTry_168, BcloseTry_192, BcloseTry_194, BcloseTry_203, BcloseTry_214, BcloseTry_218, BcloseTry_219, BcloseTry_220, BcloseTry_226, BcloseTry_231, oi_0, oi_1, oi_10, oi_1000, oi_11, oi_123, oi_19, oi_20, oi_3, oi_40, oi_41, oi_45, oi_51, oi_52, oi_53, oi_9, Pu_emit]; try dsimp only
                  unfold Qv_closeTry
                  try dsimp only
                  refine Or.inr ⟨rfl, (accY (accY s)), n, 1, (by repeat (first | exact hR113 | refine SR.i ?_ rfl | refine SR.a ?_ rfl)), (by repeat (first | exact hg113 | refine FgR.i ?_ rfl | refine FgR.a ?_ rfl)), ?_⟩
                  rw [hFt, ct_9 (by lia), tr1_y (Or.inr hcf), tr2_n (by omega), tr3_y hcf, xp_y hc107]
                  (simp only [frR_i, frR_a, ne_eq, Nat.reduceEqDiff, not_false_eq_true, hf113, hf107, hf102, hf100])
                  exact (cl_rw (k := 11) hnn.2.1 (by decide)).symm
          · dsimp only [Option.toList, List.cons_append, List.nil_append, Nat.beq, gI_sI, gI_sL, gI_sA, gI_sM, gL_sI, gL_sL, gL_sA, gL_sM, aI_sI, aI_sL, aI_sA, aI_sM, aL_sI, aL_sL, aL_sA, aL_sM]
            have hc97 : ¬ codY s = 70 := fun q => hk97 (he97.mpr q)
            refine ⟨fun h120 => ?_, fun h120 => absurd h120 (by decide)⟩
            clear h120
            refine hB _ _ _ _ _ (fun m121 hm121 => ?_)
            dsimp only [ugo, uwp, ust, uct, rfd, BcloseTry, Nat.beq, lv_args, rlk, rs1, rs2, rdl, rky, rcd, rno, rsw, Value.category, List.filter, List.take, List.drop, List.reverse, List.reverseAux, List.cons_append, List.nil_append, Option.toList, Int.toNat, Int.reduceToNat, if_pos, if_neg, reduceIte, ↓reduceIte, Nat.reduceAdd, Nat.reduceEqDiff, Nat.reduceBEq, beq_self_eq_true, Bool.not_true, Bool.not_false, Bool.and_true, Bool.and_false, Bool.true_and, Bool.false_and, gI_sI, gI_sL, gI_sA, gI_sM, gL_sI, gL_sL, gL_sA, gL_sM, aI_sI, aI_sL, aI_sA, aI_sM, aL_sI, aL_sL, aL_sA, aL_sM, BcloseTry_0, BcloseTry_26, BcloseTry_35, BcloseTry_59, BcloseTry_68, BcloseTry_70, BcloseTry_83, BcloseTry_88, BcloseTry_116, BcloseTry_125, BcloseTry_127, BcloseTry_136, BcloseTry_147, BcloseTry_151, BcloseTry_152, BcloseTry_153, BcloseTry_159, BcloseTry_168, BcloseTry_192, BcloseTry_194, BcloseTry_203, BcloseTry_214, BcloseTry_218, BcloseTry_219, BcloseTry_220, BcloseTry_226, BcloseTry_231, oi_0, oi_1, oi_10, oi_1000, oi_11, oi_123, oi_19, oi_20, oi_3, oi_40, oi_41, oi_45, oi_51, oi_52, oi_53, oi_9, Pu_emit]; try dsimp only
            refine ⟨fun h122 => ?_, fun h122 => ?_⟩
            · exfalso; lia
            · refine hB _ _ _ _ _ (fun m123 hm123 => ?_)
              dsimp only [ugo, uwp, ust, uct, rfd, BcloseTry, Nat.beq, lv_args, rlk, rs1, rs2, rdl, rky, rcd, rno, rsw, Value.category, List.filter, List.take, List.drop, List.reverse, List.reverseAux, List.cons_append, List.nil_append, Option.toList, Int.toNat, Int.reduceToNat, if_pos, if_neg, reduceIte, ↓reduceIte, Nat.reduceAdd, Nat.reduceEqDiff, Nat.reduceBEq, beq_self_eq_true, Bool.not_true, Bool.not_false, Bool.and_true, Bool.and_false, Bool.true_and, Bool.false_and, gI_sI, gI_sL, gI_sA, gI_sM, gL_sI, gL_sL, gL_sA, gL_sM, aI_sI, aI_sL, aI_sA, aI_sM, aL_sI, aL_sL, aL_sA, aL_sM, BcloseTry_0, BcloseTry_26, BcloseTry_35, BcloseTry_59, BcloseTry_68, BcloseTry_70, BcloseTry_83, BcloseTry_88, BcloseTry_116, BcloseTry_125, BcloseTry_127, BcloseTry_136, BcloseTry_147, BcloseTry_151, BcloseTry_152, BcloseTry_153, BcloseTry_159, BcloseTry_168, BcloseTry_192, BcloseTry_194, BcloseTry_203, BcloseTry_214, BcloseTry_218, BcloseTry_219, BcloseTry_220, BcloseTry_226, BcloseTry_231, oi_0, oi_1, oi_10, oi_1000, oi_11, oi_123, oi_19, oi_20, oi_3, oi_40, oi_41, oi_45, oi_51, oi_52, oi_53, oi_9, Pu_emit]; try dsimp only
              refine ⟨trivial, fun w124 τ124 hq124 => ?_⟩
              have hq124 := hq124 s (XrR.s (SR.x (e_ := 0) (by repeat (first | exact hRp | refine SR.i ?_ rfl | refine SR.a ?_ rfl))))
              obtain ⟨rfl, hF124⟩ := hq124
              dsimp only [Option.toList, List.cons_append, List.nil_append, Nat.beq, gI_sI, gI_sL, gI_sA, gI_sM, gL_sI, gL_sL, gL_sA, gL_sM, aI_sI, aI_sL, aI_sA, aI_sM, aL_sI, aL_sL, aL_sA, aL_sM]
              unfold Qv_closeTry
              try dsimp only
              rw [hFt, ct_9 (by lia), tr1_n (by omega)]
              refine StQ.f hF124 ?_
              exact (by repeat (first | with_reducible exact GpY.rf | with_reducible refine GpY.tr ?_ (gd_fo _) | with_reducible refine GpY.tr ?_ (gd_ef _) | with_reducible refine GpY.tr ?_ (gd_cf _) | with_reducible refine GpY.tr ?_ (gd_wt _) | with_reducible refine GpY.tr ?_ (gd_xp _) | with_reducible refine GpY.tr ?_ (gd_acc _) | with_reducible refine GpY.tr ?_ (gd_rai _) | with_reducible refine GpY.tr ?_ (gd_e _) | with_reducible refine GpY.tr ?_ (gd_o _) | with_reducible refine GpY.tr ?_ (gd_c _) | with_reducible refine GpY.tr ?_ (gd_op _) | with_reducible refine GpY.tr ?_ (gd_clp gd_e _ _) | with_reducible refine GpY.tr ?_ (gd_tl _) | with_reducible refine GpY.tr ?_ (gd_sf _ _ _) | with_reducible refine GpY.tr ?_ (gd_cl _) | with_reducible refine GpY.tr ?_ (gd_pc _) | with_reducible refine GpY.tr ?_ (gd_st _) | with_reducible refine GpY.tr ?_ (gd_rw _) | with_reducible refine GpY.tr ?_ (gd_typ _) | with_reducible refine GpY.tr ?_ (gd_dcl _) | with_reducible refine GpY.tr ?_ (gd_va2 _) | with_reducible refine GpY.tr ?_ (gd_cnd _) | with_reducible refine GpY.tr ?_ (gd_tr1 _) | with_reducible refine GpY.tr ?_ (gd_tr2 (fun _ => gd_rw) _) | with_reducible refine GpY.tr ?_ (gd_tr3 (fun _ => gd_rw) _) | with_reducible refine GpY.tr ?_ (gd_fo1 _) | with_reducible refine GpY.tr ?_ (gd_fo2 _) | with_reducible refine GpY.tr ?_ (gd_fo3 _) | with_reducible refine GpY.tr ?_ (gd_fex _) | with_reducible refine GpY.tr ?_ (pg_var.1) | with_reducible refine GpY.tr ?_ (pg_cas.1) | exact GpY.rf))
  next => exact hP.elim
theorem w_closeTry : UMet 68 (fun _ _ => True) Qw_closeTry := fun A1 σ _ w τ h s n hP => v_closeTry s n A1 σ hP w τ h
def Pv_closeRow (s : SpC) (n : Nat) : UP1 := fun A1 σ => match A1 with
  | [.int sort] => SR σ s n ∧ 0 < gI σ 62 ∧ aI σ 63 (gI σ 62 - 1).toNatClampNeg = sort ∧ (sort = 0 ∨ sort = 1 ∨ sort = 9 ∨ sort = 10 ∨ sort = 11) ∧ codY s = 3
  | _ => False
def Qv_closeRow (s : SpC) (n : Nat) : UQ1 := fun A1 σ w τ => match A1 with
  | [.int sort] => StQ τ (clY sort.toInt (frR σ).tail n s) w
  | _ => False
def Qw_closeRow : UQ1 := fun A1 σ w τ => ∀ (s : SpC) (n : Nat), Pv_closeRow s n A1 σ → Qv_closeRow s n A1 σ w τ
set_option maxRecDepth 100000 in
set_option maxHeartbeats 4000000 in
theorem v_closeRow (s : SpC) (n : Nat) : UMet 67 (Pv_closeRow s n) (Qv_closeRow s n) := by
  refine UMet.by BcloseRow [(68, (fun _ _ => True), Qw_closeTry), (61, (fun _ _ => True), Qw_closed), (20, Pu_emit, Qu_emit), (42, Pu_leave, Qu_leave), (17, (fun _ _ => True), Qw_take)] rfl (ucc w_closeTry (ucc w_closed (ucc u_emit (ucc u_leave (ucc w_take uc0))))) ?_
  intro A1 σ hP K hB hW
  unfold Pv_closeRow at hP
  split at hP
  next sort =>
    obtain ⟨hR, hop, hT, hs, hcd⟩ := hP
    have hFq := frR_pop hop
    rw [hT] at hFq
    intro n0_
    refine hB _ _ _ _ _ (fun m1 hm1 => ?_)
    dsimp only [ugo, uwp, ust, uct, rfd, BcloseRow, Nat.beq, lv_args, rlk, rs1, rs2, rdl, rky, rcd, rno, rsw, Value.category, List.filter, List.take, List.drop, List.reverse, List.reverseAux, List.cons_append, List.nil_append, Option.toList, Int.toNat, Int.reduceToNat, if_pos, if_neg, reduceIte, ↓reduceIte, Nat.reduceAdd, Nat.reduceEqDiff, Nat.reduceBEq, beq_self_eq_true, Bool.not_true, Bool.not_false, Bool.and_true, Bool.and_false, Bool.true_and, Bool.false_and, gI_sI, gI_sL, gI_sA, gI_sM, gL_sI, gL_sL, gL_sA, gL_sM, aI_sI, aI_sL, aI_sA, aI_sM, aL_sI, aL_sL, aL_sA, aL_sM, BcloseRow_0, BcloseRow_37, BcloseRow_52, BcloseRow_53, BcloseRow_65, BcloseRow_67, BcloseRow_71, BcloseRow_117, BcloseRow_122, BcloseRow_128, oi_0, oi_1, oi_1000, oi_3, oi_54, oi_9, Pu_emit, Pu_leave]; try dsimp only
    intro p2
    intro p3
    refine ⟨fun h4 => ?_, fun h4 => ?_⟩
    · refine hB _ _ _ _ _ (fun m5 hm5 => ?_)
      dsimp only [ugo, uwp, ust, uct, rfd, BcloseRow, Nat.beq, lv_args, rlk, rs1, rs2, rdl, rky, rcd, rno, rsw, Value.category, List.filter, List.take, List.drop, List.reverse, List.reverseAux, List.cons_append, List.nil_append, Option.toList, Int.toNat, Int.reduceToNat, if_pos, if_neg, reduceIte, ↓reduceIte, Nat.reduceAdd, Nat.reduceEqDiff, Nat.reduceBEq, beq_self_eq_true, Bool.not_true, Bool.not_false, Bool.and_true, Bool.and_false, Bool.true_and, Bool.false_and, gI_sI, gI_sL, gI_sA, gI_sM, gL_sI, gL_sL, gL_sA, gL_sM, aI_sI, aI_sL, aI_sA, aI_sM, aL_sI, aL_sL, aL_sA, aL_sM, BcloseRow_0, BcloseRow_37, BcloseRow_52, BcloseRow_53, BcloseRow_65, BcloseRow_67, BcloseRow_71, BcloseRow_117, BcloseRow_122, BcloseRow_128, oi_0, oi_1, oi_1000, oi_3, oi_54, oi_9, Pu_emit, Pu_leave]; try dsimp only
      refine hB _ _ _ _ _ (fun m6 hm6 => ?_)
      dsimp only [ugo, uwp, ust, uct, rfd, BcloseRow, Nat.beq, lv_args, rlk, rs1, rs2, rdl, rky, rcd, rno, rsw, Value.category, List.filter, List.take, List.drop, List.reverse, List.reverseAux, List.cons_append, List.nil_append, Option.toList, Int.toNat, Int.reduceToNat, if_pos, if_neg, reduceIte, ↓reduceIte, Nat.reduceAdd, Nat.reduceEqDiff, Nat.reduceBEq, beq_self_eq_true, Bool.not_true, Bool.not_false, Bool.and_true, Bool.and_false, Bool.true_and, Bool.false_and, gI_sI, gI_sL, gI_sA, gI_sM, gL_sI, gL_sL, gL_sA, gL_sM, aI_sI, aI_sL, aI_sA, aI_sM, aL_sI, aL_sL, aL_sA, aL_sM, BcloseRow_0, BcloseRow_37, BcloseRow_52, BcloseRow_53, BcloseRow_65, BcloseRow_67, BcloseRow_71, BcloseRow_117, BcloseRow_122, BcloseRow_128, oi_0, oi_1, oi_1000, oi_3, oi_54, oi_9, Pu_emit, Pu_leave]; try dsimp only
      refine ⟨trivial, fun w7 τ7 hq7 => ?_⟩
      obtain ⟨rfl, f7, rfl⟩ := hq7
      dsimp only [Option.toList, List.cons_append, List.nil_append, Nat.beq, gI_sI, gI_sL, gI_sA, gI_sM, gL_sI, gL_sL, gL_sA, gL_sM, aI_sI, aI_sL, aI_sA, aI_sM, aL_sI, aL_sL, aL_sA, aL_sM]
      refine ⟨trivial, fun w8 τ8 hq8 => ?_⟩
      have hq8 := hq8 _ s n ⟨(SR.x (e_ := 0) (by repeat (first | exact hR | refine SR.i ?_ rfl | refine SR.a ?_ rfl))), by omega, by omega⟩
      rcases hq8 with ⟨rfl, hF8⟩ | ⟨rfl, hX8, hz8, hS8⟩
      · dsimp only [Option.toList, List.cons_append, List.nil_append, Nat.beq, gI_sI, gI_sL, gI_sA, gI_sM, gL_sI, gL_sL, gL_sA, gL_sM, aI_sI, aI_sL, aI_sA, aI_sM, aL_sI, aL_sL, aL_sA, aL_sM]
        refine ⟨fun h9 => absurd h9 (by decide), fun h9 => ?_⟩
        clear h9
        refine hB _ _ _ _ _ (fun m10 hm10 => ?_)
        dsimp only [ugo, uwp, ust, uct, rfd, BcloseRow, Nat.beq, lv_args, rlk, rs1, rs2, rdl, rky, rcd, rno, rsw, Value.category, List.filter, List.take, List.drop, List.reverse, List.reverseAux, List.cons_append, List.nil_append, Option.toList, Int.toNat, Int.reduceToNat, if_pos, if_neg, reduceIte, ↓reduceIte, Nat.reduceAdd, Nat.reduceEqDiff, Nat.reduceBEq, beq_self_eq_true, Bool.not_true, Bool.not_false, Bool.and_true, Bool.and_false, Bool.true_and, Bool.false_and, gI_sI, gI_sL, gI_sA, gI_sM, gL_sI, gL_sL, gL_sA, gL_sM, aI_sI, aI_sL, aI_sA, aI_sM, aL_sI, aL_sL, aL_sA, aL_sM, BcloseRow_0, BcloseRow_37, BcloseRow_52, BcloseRow_53, BcloseRow_65, BcloseRow_67, BcloseRow_71, BcloseRow_117, BcloseRow_122, BcloseRow_128, oi_0, oi_1, oi_1000, oi_3, oi_54, oi_9, Pu_emit, Pu_leave]; try dsimp only
        unfold Qv_closeRow
        try dsimp only
        rw [cl_ct hcd]
        refine StQ.f hF8 ?_
        exact gd_ct _
      · dsimp only [Option.toList, List.cons_append, List.nil_append, Nat.beq, gI_sI, gI_sL, gI_sA, gI_sM, gL_sI, gL_sL, gL_sA, gL_sM, aI_sI, aI_sL, aI_sA, aI_sM, aL_sI, aL_sL, aL_sA, aL_sM]
        have hR8 := SR.kr (e_ := 0) (by repeat (first | exact hR | refine SR.i ?_ rfl | refine SR.a ?_ rfl)) hX8 acc2
        have hf8 := frR_kr hX8
        refine ⟨fun h11 => ?_, fun h11 => absurd h11 (by decide)⟩
        clear h11
        refine hB _ _ _ _ _ (fun m12 hm12 => ?_)
        dsimp only [ugo, uwp, ust, uct, rfd, BcloseRow, Nat.beq, lv_args, rlk, rs1, rs2, rdl, rky, rcd, rno, rsw, Value.category, List.filter, List.take, List.drop, List.reverse, List.reverseAux, List.cons_append, List.nil_append, Option.toList, Int.toNat, Int.reduceToNat, if_pos, if_neg, reduceIte, ↓reduceIte, Nat.reduceAdd, Nat.reduceEqDiff, Nat.reduceBEq, beq_self_eq_true, Bool.not_true, Bool.not_false, Bool.and_true, Bool.and_false, Bool.true_and, Bool.false_and, gI_sI, gI_sL, gI_sA, gI_sM, gL_sI, gL_sL, gL_sA, gL_sM, aI_sI, aI_sL, aI_sA, aI_sM, aL_sI, aL_sL, aL_sA, aL_sM, BcloseRow_0, BcloseRow_37, BcloseRow_52, BcloseRow_53, BcloseRow_65, BcloseRow_67, BcloseRow_71, BcloseRow_117, BcloseRow_122, BcloseRow_128, oi_0, oi_1, oi_1000, oi_3, oi_54, oi_9, Pu_emit, Pu_leave]; try dsimp only
        refine ⟨fun h13 => ?_, fun h13 => ?_⟩
        · refine hB _ _ _ _ _ (fun m14 hm14 => ?_)
          dsimp only [ugo, uwp, ust, uct, rfd, BcloseRow, Nat.beq, lv_args, rlk, rs1, rs2, rdl, rky, rcd, rno, rsw, Value.category, List.filter, List.take, List.drop, List.reverse, List.reverseAux, List.cons_append, List.nil_append, Option.toList, Int.toNat, Int.reduceToNat, if_pos, if_neg, reduceIte, ↓reduceIte, Nat.reduceAdd, Nat.reduceEqDiff, Nat.reduceBEq, beq_self_eq_true, Bool.not_true, Bool.not_false, Bool.and_true, Bool.and_false, Bool.true_and, Bool.false_and, gI_sI, gI_sL, gI_sA, gI_sM, gL_sI, gL_sL, gL_sA, gL_sM, aI_sI, aI_sL, aI_sA, aI_sM, aL_sI, aL_sL, aL_sA, aL_sM, BcloseRow_0, BcloseRow_37, BcloseRow_52, BcloseRow_53, BcloseRow_65, BcloseRow_67, BcloseRow_71, BcloseRow_117, BcloseRow_122, BcloseRow_128, oi_0, oi_1, oi_1000, oi_3, oi_54, oi_9, Pu_emit, Pu_leave]; try dsimp only
          refine ⟨fun h15 => ?_, fun h15 => ?_⟩
          · refine hB _ _ _ _ _ (fun m16 hm16 => ?_)
            dsimp only [ugo, uwp, ust, uct, rfd, BcloseRow, Nat.beq, lv_args, rlk, rs1, rs2, rdl, rky, rcd, rno, rsw, Value.category, List.filter, List.take, List.drop, List.reverse, List.reverseAux, List.cons_append, List.nil_append, Option.toList, Int.toNat, Int.reduceToNat, if_pos, if_neg, reduceIte, ↓reduceIte, Nat.reduceAdd, Nat.reduceEqDiff, Nat.reduceBEq, beq_self_eq_true, Bool.not_true, Bool.not_false, Bool.and_true, Bool.and_false, Bool.true_and, Bool.false_and, gI_sI, gI_sL, gI_sA, gI_sM, gL_sI, gL_sL, gL_sA, gL_sM, aI_sI, aI_sL, aI_sA, aI_sM, aL_sI, aL_sL, aL_sA, aL_sM, BcloseRow_0, BcloseRow_37, BcloseRow_52, BcloseRow_53, BcloseRow_65, BcloseRow_67, BcloseRow_71, BcloseRow_117, BcloseRow_122, BcloseRow_128, oi_0, oi_1, oi_1000, oi_3, oi_54, oi_9, Pu_emit, Pu_leave]; try dsimp only
            refine ⟨trivial, fun w17 τ17 hq17 => ?_⟩
            have hq17 : StQ τ17 _ w17 := hq17 (accY s) n ⟨(by repeat (first | exact hR8 | refine SR.i ?_ rfl | refine SR.a ?_ rfl)), (by rw [hS8.1 62 (by decide)]; exact hop), (by rw [hS8.1 62 (by decide), hS8.2 63]; exact hT), (by lia), (by rw [hS8.1 49 (by decide)]; exact th_top hR hop)⟩
            have hv17 : w17 = some (.int 0) ∨ w17 = some (.int 1) := hq17.imp (fun q => q.1) (fun q => q.1)
            rcases hv17 with rfl | rfl
            · dsimp only [Option.toList, List.cons_append, List.nil_append, Nat.beq, gI_sI, gI_sL, gI_sA, gI_sM, gL_sI, gL_sL, gL_sA, gL_sM, aI_sI, aI_sL, aI_sA, aI_sM, aL_sI, aL_sL, aL_sA, aL_sM]
              unfold Qv_closeRow
              try dsimp only
              rw [cl_ct hcd]
              have hq_ := hq17
              rw [hf8, frR_a (by decide)] at hq_
              exact hq_
            · dsimp only [Option.toList, List.cons_append, List.nil_append, Nat.beq, gI_sI, gI_sL, gI_sA, gI_sM, gL_sI, gL_sL, gL_sA, gL_sM, aI_sI, aI_sL, aI_sA, aI_sM, aL_sI, aL_sL, aL_sA, aL_sM]
              unfold Qv_closeRow
              try dsimp only
              rw [cl_ct hcd]
              have hq_ := hq17
              rw [hf8, frR_a (by decide)] at hq_
              exact hq_
          · refine hB _ _ _ _ _ (fun m18 hm18 => ?_)
            dsimp only [ugo, uwp, ust, uct, rfd, BcloseRow, Nat.beq, lv_args, rlk, rs1, rs2, rdl, rky, rcd, rno, rsw, Value.category, List.filter, List.take, List.drop, List.reverse, List.reverseAux, List.cons_append, List.nil_append, Option.toList, Int.toNat, Int.reduceToNat, if_pos, if_neg, reduceIte, ↓reduceIte, Nat.reduceAdd, Nat.reduceEqDiff, Nat.reduceBEq, beq_self_eq_true, Bool.not_true, Bool.not_false, Bool.and_true, Bool.and_false, Bool.true_and, Bool.false_and, gI_sI, gI_sL, gI_sA, gI_sM, gL_sI, gL_sL, gL_sA, gL_sM, aI_sI, aI_sL, aI_sA, aI_sM, aL_sI, aL_sL, aL_sA, aL_sM, BcloseRow_0, BcloseRow_37, BcloseRow_52, BcloseRow_53, BcloseRow_65, BcloseRow_67, BcloseRow_71, BcloseRow_117, BcloseRow_122, BcloseRow_128, oi_0, oi_1, oi_1000, oi_3, oi_54, oi_9, Pu_emit, Pu_leave]; try dsimp only
            refine ⟨trivial, fun w19 τ19 hq19 => ?_⟩
            have hq19 : StQ τ19 _ w19 := hq19 (accY s) n ⟨(by repeat (first | exact hR8 | refine SR.i ?_ rfl | refine SR.a ?_ rfl)), (by rw [hS8.1 62 (by decide)]; exact hop)⟩
            have hv19 : w19 = some (.int 0) ∨ w19 = some (.int 1) := hq19.imp (fun q => q.1) (fun q => q.1)
            rcases hv19 with rfl | rfl
            · dsimp only [Option.toList, List.cons_append, List.nil_append, Nat.beq, gI_sI, gI_sL, gI_sA, gI_sM, gL_sI, gL_sL, gL_sA, gL_sM, aI_sI, aI_sL, aI_sA, aI_sM, aL_sI, aL_sL, aL_sA, aL_sM]
              unfold Qv_closeRow
              try dsimp only
              rw [cl_ct hcd, show sort = 1 by lia]
              have hq_ := hq19
              rw [hf8, frR_a (by decide)] at hq_
              exact hq_
            · dsimp only [Option.toList, List.cons_append, List.nil_append, Nat.beq, gI_sI, gI_sL, gI_sA, gI_sM, gL_sI, gL_sL, gL_sA, gL_sM, aI_sI, aI_sL, aI_sA, aI_sM, aL_sI, aL_sL, aL_sA, aL_sM]
              unfold Qv_closeRow
              try dsimp only
              rw [cl_ct hcd, show sort = 1 by lia]
              have hq_ := hq19
              rw [hf8, frR_a (by decide)] at hq_
              exact hq_
        · refine hB _ _ _ _ _ (fun m20 hm20 => ?_)
          dsimp only [ugo, uwp, ust, uct, rfd, BcloseRow, Nat.beq, lv_args, rlk, rs1, rs2, rdl, rky, rcd, rno, rsw, Value.category, List.filter, List.take, List.drop, List.reverse, List.reverseAux, List.cons_append, List.nil_append, Option.toList, Int.toNat, Int.reduceToNat, if_pos, if_neg, reduceIte, ↓reduceIte, Nat.reduceAdd, Nat.reduceEqDiff, Nat.reduceBEq, beq_self_eq_true, Bool.not_true, Bool.not_false, Bool.and_true, Bool.and_false, Bool.true_and, Bool.false_and, gI_sI, gI_sL, gI_sA, gI_sM, gL_sI, gL_sL, gL_sA, gL_sM, aI_sI, aI_sL, aI_sA, aI_sM, aL_sI, aL_sL, aL_sA, aL_sM, BcloseRow_0, BcloseRow_37, BcloseRow_52, BcloseRow_53, BcloseRow_65, BcloseRow_67, BcloseRow_71, BcloseRow_117, BcloseRow_122, BcloseRow_128, oi_0, oi_1, oi_1000, oi_3, oi_54, oi_9, Pu_emit, Pu_leave]; try dsimp only
          intro p21
          refine ⟨trivial, fun w22 τ22 hq22 => ?_⟩
          obtain ⟨rfl, hE22⟩ := hq22
          have hR22 := SR.em (e_ := 0) (s := (accY s)) (n := n) (by repeat (first | exact hR8 | refine SR.i ?_ rfl | refine SR.a ?_ rfl)) hE22
          have hf22 := frR_em hE22
          dsimp only [Option.toList, List.cons_append, List.nil_append, Nat.beq, gI_sI, gI_sL, gI_sA, gI_sM, gL_sI, gL_sL, gL_sA, gL_sM, aI_sI, aI_sL, aI_sA, aI_sM, aL_sI, aL_sL, aL_sA, aL_sM]
          have h62_ : 0 < gI τ22 62 := by rw [hE22.1 62 (by decide), hS8.1 62 (by decide)]; exact hop
          obtain ⟨hRp, hgp⟩ := SR.pop hR22 h62_
          have hFp := frR_pop h62_
          unfold Qv_closeRow
          try dsimp only
          refine Or.inr ⟨rfl, accY s, n + 1, 0, hRp, hgp, ?_⟩
          have e : (frR σ).tail = [] := by rw [hFq]; exact nil_tail hR hFq (by lia)
          have e2 : frR (sI τ22 62 (gI τ22 62 - 1)) = [] := by
            have q := hFp
            rw [hf22, hf8, frR_a (by decide), hFq] at q
            have q := (List.cons.inj q).2
            rw [← q]
            exact nil_tail hR hFq (by lia)
          rw [frR_i (by decide), e2, e, cl_ct hcd, show sort = 0 by lia]
          rfl
    · refine hB _ _ _ _ _ (fun m23 hm23 => ?_)
      dsimp only [ugo, uwp, ust, uct, rfd, BcloseRow, Nat.beq, lv_args, rlk, rs1, rs2, rdl, rky, rcd, rno, rsw, Value.category, List.filter, List.take, List.drop, List.reverse, List.reverseAux, List.cons_append, List.nil_append, Option.toList, Int.toNat, Int.reduceToNat, if_pos, if_neg, reduceIte, ↓reduceIte, Nat.reduceAdd, Nat.reduceEqDiff, Nat.reduceBEq, beq_self_eq_true, Bool.not_true, Bool.not_false, Bool.and_true, Bool.and_false, Bool.true_and, Bool.false_and, gI_sI, gI_sL, gI_sA, gI_sM, gL_sI, gL_sL, gL_sA, gL_sM, aI_sI, aI_sL, aI_sA, aI_sM, aL_sI, aL_sL, aL_sA, aL_sM, BcloseRow_0, BcloseRow_37, BcloseRow_52, BcloseRow_53, BcloseRow_65, BcloseRow_67, BcloseRow_71, BcloseRow_117, BcloseRow_122, BcloseRow_128, oi_0, oi_1, oi_1000, oi_3, oi_54, oi_9, Pu_emit, Pu_leave]; try dsimp only
      refine hB _ _ _ _ _ (fun m24 hm24 => ?_)
      dsimp only [ugo, uwp, ust, uct, rfd, BcloseRow, Nat.beq, lv_args, rlk, rs1, rs2, rdl, rky, rcd, rno, rsw, Value.category, List.filter, List.take, List.drop, List.reverse, List.reverseAux, List.cons_append, List.nil_append, Option.toList, Int.toNat, Int.reduceToNat, if_pos, if_neg, reduceIte, ↓reduceIte, Nat.reduceAdd, Nat.reduceEqDiff, Nat.reduceBEq, beq_self_eq_true, Bool.not_true, Bool.not_false, Bool.and_true, Bool.and_false, Bool.true_and, Bool.false_and, gI_sI, gI_sL, gI_sA, gI_sM, gL_sI, gL_sL, gL_sA, gL_sM, aI_sI, aI_sL, aI_sA, aI_sM, aL_sI, aL_sL, aL_sA, aL_sM, BcloseRow_0, BcloseRow_37, BcloseRow_52, BcloseRow_53, BcloseRow_65, BcloseRow_67, BcloseRow_71, BcloseRow_117, BcloseRow_122, BcloseRow_128, oi_0, oi_1, oi_1000, oi_3, oi_54, oi_9, Pu_emit, Pu_leave]; try dsimp only
      refine ⟨trivial, fun w25 τ25 hq25 => ?_⟩
      obtain ⟨rfl, f25, rfl⟩ := hq25
      dsimp only [Option.toList, List.cons_append, List.nil_append, Nat.beq, gI_sI, gI_sL, gI_sA, gI_sM, gL_sI, gL_sL, gL_sA, gL_sM, aI_sI, aI_sL, aI_sA, aI_sM, aL_sI, aL_sL, aL_sA, aL_sM]
      refine ⟨trivial, fun w26 τ26 hq26 => ?_⟩
      have hq26 := hq26 _ s n ⟨(SR.x (e_ := 0) (by repeat (first | exact hR | refine SR.i ?_ rfl | refine SR.a ?_ rfl))), by omega, by omega⟩
      rcases hq26 with ⟨rfl, hF26⟩ | ⟨rfl, hX26, hz26, hS26⟩
      · dsimp only [Option.toList, List.cons_append, List.nil_append, Nat.beq, gI_sI, gI_sL, gI_sA, gI_sM, gL_sI, gL_sL, gL_sA, gL_sM, aI_sI, aI_sL, aI_sA, aI_sM, aL_sI, aL_sL, aL_sA, aL_sM]
        refine ⟨fun h27 => absurd h27 (by decide), fun h27 => ?_⟩
        clear h27
        refine hB _ _ _ _ _ (fun m28 hm28 => ?_)
        dsimp only [ugo, uwp, ust, uct, rfd, BcloseRow, Nat.beq, lv_args, rlk, rs1, rs2, rdl, rky, rcd, rno, rsw, Value.category, List.filter, List.take, List.drop, List.reverse, List.reverseAux, List.cons_append, List.nil_append, Option.toList, Int.toNat, Int.reduceToNat, if_pos, if_neg, reduceIte, ↓reduceIte, Nat.reduceAdd, Nat.reduceEqDiff, Nat.reduceBEq, beq_self_eq_true, Bool.not_true, Bool.not_false, Bool.and_true, Bool.and_false, Bool.true_and, Bool.false_and, gI_sI, gI_sL, gI_sA, gI_sM, gL_sI, gL_sL, gL_sA, gL_sM, aI_sI, aI_sL, aI_sA, aI_sM, aL_sI, aL_sL, aL_sA, aL_sM, BcloseRow_0, BcloseRow_37, BcloseRow_52, BcloseRow_53, BcloseRow_65, BcloseRow_67, BcloseRow_71, BcloseRow_117, BcloseRow_122, BcloseRow_128, oi_0, oi_1, oi_1000, oi_3, oi_54, oi_9, Pu_emit, Pu_leave]; try dsimp only
        unfold Qv_closeRow
        try dsimp only
        rw [cl_ct hcd]
        refine StQ.f hF26 ?_
        exact gd_ct _
      · dsimp only [Option.toList, List.cons_append, List.nil_append, Nat.beq, gI_sI, gI_sL, gI_sA, gI_sM, gL_sI, gL_sL, gL_sA, gL_sM, aI_sI, aI_sL, aI_sA, aI_sM, aL_sI, aL_sL, aL_sA, aL_sM]
        have hR26 := SR.kr (e_ := 0) (by repeat (first | exact hR | refine SR.i ?_ rfl | refine SR.a ?_ rfl)) hX26 acc2
        have hf26 := frR_kr hX26
        refine ⟨fun h29 => ?_, fun h29 => absurd h29 (by decide)⟩
        clear h29
        refine hB _ _ _ _ _ (fun m30 hm30 => ?_)
        dsimp only [ugo, uwp, ust, uct, rfd, BcloseRow, Nat.beq, lv_args, rlk, rs1, rs2, rdl, rky, rcd, rno, rsw, Value.category, List.filter, List.take, List.drop, List.reverse, List.reverseAux, List.cons_append, List.nil_append, Option.toList, Int.toNat, Int.reduceToNat, if_pos, if_neg, reduceIte, ↓reduceIte, Nat.reduceAdd, Nat.reduceEqDiff, Nat.reduceBEq, beq_self_eq_true, Bool.not_true, Bool.not_false, Bool.and_true, Bool.and_false, Bool.true_and, Bool.false_and, gI_sI, gI_sL, gI_sA, gI_sM, gL_sI, gL_sL, gL_sA, gL_sM, aI_sI, aI_sL, aI_sA, aI_sM, aL_sI, aL_sL, aL_sA, aL_sM, BcloseRow_0, BcloseRow_37, BcloseRow_52, BcloseRow_53, BcloseRow_65, BcloseRow_67, BcloseRow_71, BcloseRow_117, BcloseRow_122, BcloseRow_128, oi_0, oi_1, oi_1000, oi_3, oi_54, oi_9, Pu_emit, Pu_leave]; try dsimp only
        refine ⟨fun h31 => ?_, fun h31 => ?_⟩
        · refine hB _ _ _ _ _ (fun m32 hm32 => ?_)
          dsimp only [ugo, uwp, ust, uct, rfd, BcloseRow, Nat.beq, lv_args, rlk, rs1, rs2, rdl, rky, rcd, rno, rsw, Value.category, List.filter, List.take, List.drop, List.reverse, List.reverseAux, List.cons_append, List.nil_append, Option.toList, Int.toNat, Int.reduceToNat, if_pos, if_neg, reduceIte, ↓reduceIte, Nat.reduceAdd, Nat.reduceEqDiff, Nat.reduceBEq, beq_self_eq_true, Bool.not_true, Bool.not_false, Bool.and_true, Bool.and_false, Bool.true_and, Bool.false_and, gI_sI, gI_sL, gI_sA, gI_sM, gL_sI, gL_sL, gL_sA, gL_sM, aI_sI, aI_sL, aI_sA, aI_sM, aL_sI, aL_sL, aL_sA, aL_sM, BcloseRow_0, BcloseRow_37, BcloseRow_52, BcloseRow_53, BcloseRow_65, BcloseRow_67, BcloseRow_71, BcloseRow_117, BcloseRow_122, BcloseRow_128, oi_0, oi_1, oi_1000, oi_3, oi_54, oi_9, Pu_emit, Pu_leave]; try dsimp only
          refine ⟨fun h33 => ?_, fun h33 => ?_⟩
          · refine hB _ _ _ _ _ (fun m34 hm34 => ?_)
            dsimp only [ugo, uwp, ust, uct, rfd, BcloseRow, Nat.beq, lv_args, rlk, rs1, rs2, rdl, rky, rcd, rno, rsw, Value.category, List.filter, List.take, List.drop, List.reverse, List.reverseAux, List.cons_append, List.nil_append, Option.toList, Int.toNat, Int.reduceToNat, if_pos, if_neg, reduceIte, ↓reduceIte, Nat.reduceAdd, Nat.reduceEqDiff, Nat.reduceBEq, beq_self_eq_true, Bool.not_true, Bool.not_false, Bool.and_true, Bool.and_false, Bool.true_and, Bool.false_and, gI_sI, gI_sL, gI_sA, gI_sM, gL_sI, gL_sL, gL_sA, gL_sM, aI_sI, aI_sL, aI_sA, aI_sM, aL_sI, aL_sL, aL_sA, aL_sM, BcloseRow_0, BcloseRow_37, BcloseRow_52, BcloseRow_53, BcloseRow_65, BcloseRow_67, BcloseRow_71, BcloseRow_117, BcloseRow_122, BcloseRow_128, oi_0, oi_1, oi_1000, oi_3, oi_54, oi_9, Pu_emit, Pu_leave]; try dsimp only
            refine ⟨trivial, fun w35 τ35 hq35 => ?_⟩
            have hq35 : StQ τ35 _ w35 := hq35 (accY s) n ⟨(by repeat (first | exact hR26 | refine SR.i ?_ rfl | refine SR.a ?_ rfl)), (by rw [hS26.1 62 (by decide)]; exact hop), (by rw [hS26.1 62 (by decide), hS26.2 63]; exact hT), (by lia), (by rw [hS26.1 49 (by decide)]; exact th_top hR hop)⟩
            have hv35 : w35 = some (.int 0) ∨ w35 = some (.int 1) := hq35.imp (fun q => q.1) (fun q => q.1)
            rcases hv35 with rfl | rfl
            · dsimp only [Option.toList, List.cons_append, List.nil_append, Nat.beq, gI_sI, gI_sL, gI_sA, gI_sM, gL_sI, gL_sL, gL_sA, gL_sM, aI_sI, aI_sL, aI_sA, aI_sM, aL_sI, aL_sL, aL_sA, aL_sM]
              unfold Qv_closeRow
              try dsimp only
              rw [cl_ct hcd]
              have hq_ := hq35
              rw [hf26, frR_a (by decide)] at hq_
              exact hq_
            · dsimp only [Option.toList, List.cons_append, List.nil_append, Nat.beq, gI_sI, gI_sL, gI_sA, gI_sM, gL_sI, gL_sL, gL_sA, gL_sM, aI_sI, aI_sL, aI_sA, aI_sM, aL_sI, aL_sL, aL_sA, aL_sM]
              unfold Qv_closeRow
              try dsimp only
              rw [cl_ct hcd]
              have hq_ := hq35
              rw [hf26, frR_a (by decide)] at hq_
              exact hq_
          · refine hB _ _ _ _ _ (fun m36 hm36 => ?_)
            dsimp only [ugo, uwp, ust, uct, rfd, BcloseRow, Nat.beq, lv_args, rlk, rs1, rs2, rdl, rky, rcd, rno, rsw, Value.category, List.filter, List.take, List.drop, List.reverse, List.reverseAux, List.cons_append, List.nil_append, Option.toList, Int.toNat, Int.reduceToNat, if_pos, if_neg, reduceIte, ↓reduceIte, Nat.reduceAdd, Nat.reduceEqDiff, Nat.reduceBEq, beq_self_eq_true, Bool.not_true, Bool.not_false, Bool.and_true, Bool.and_false, Bool.true_and, Bool.false_and, gI_sI, gI_sL, gI_sA, gI_sM, gL_sI, gL_sL, gL_sA, gL_sM, aI_sI, aI_sL, aI_sA, aI_sM, aL_sI, aL_sL, aL_sA, aL_sM, BcloseRow_0, BcloseRow_37, BcloseRow_52, BcloseRow_53, BcloseRow_65, BcloseRow_67, BcloseRow_71, BcloseRow_117, BcloseRow_122, BcloseRow_128, oi_0, oi_1, oi_1000, oi_3, oi_54, oi_9, Pu_emit, Pu_leave]; try dsimp only
            refine ⟨trivial, fun w37 τ37 hq37 => ?_⟩
            have hq37 : StQ τ37 _ w37 := hq37 (accY s) n ⟨(by repeat (first | exact hR26 | refine SR.i ?_ rfl | refine SR.a ?_ rfl)), (by rw [hS26.1 62 (by decide)]; exact hop)⟩
            have hv37 : w37 = some (.int 0) ∨ w37 = some (.int 1) := hq37.imp (fun q => q.1) (fun q => q.1)
            rcases hv37 with rfl | rfl
            · dsimp only [Option.toList, List.cons_append, List.nil_append, Nat.beq, gI_sI, gI_sL, gI_sA, gI_sM, gL_sI, gL_sL, gL_sA, gL_sM, aI_sI, aI_sL, aI_sA, aI_sM, aL_sI, aL_sL, aL_sA, aL_sM]
              unfold Qv_closeRow
              try dsimp only
              rw [cl_ct hcd, show sort = 1 by lia]
              have hq_ := hq37
              rw [hf26, frR_a (by decide)] at hq_
              exact hq_
            · dsimp only [Option.toList, List.cons_append, List.nil_append, Nat.beq, gI_sI, gI_sL, gI_sA, gI_sM, gL_sI, gL_sL, gL_sA, gL_sM, aI_sI, aI_sL, aI_sA, aI_sM, aL_sI, aL_sL, aL_sA, aL_sM]
              unfold Qv_closeRow
              try dsimp only
              rw [cl_ct hcd, show sort = 1 by lia]
              have hq_ := hq37
              rw [hf26, frR_a (by decide)] at hq_
              exact hq_
        · refine hB _ _ _ _ _ (fun m38 hm38 => ?_)
          dsimp only [ugo, uwp, ust, uct, rfd, BcloseRow, Nat.beq, lv_args, rlk, rs1, rs2, rdl, rky, rcd, rno, rsw, Value.category, List.filter, List.take, List.drop, List.reverse, List.reverseAux, List.cons_append, List.nil_append, Option.toList, Int.toNat, Int.reduceToNat, if_pos, if_neg, reduceIte, ↓reduceIte, Nat.reduceAdd, Nat.reduceEqDiff, Nat.reduceBEq, beq_self_eq_true, Bool.not_true, Bool.not_false, Bool.and_true, Bool.and_false, Bool.true_and, Bool.false_and, gI_sI, gI_sL, gI_sA, gI_sM, gL_sI, gL_sL, gL_sA, gL_sM, aI_sI, aI_sL, aI_sA, aI_sM, aL_sI, aL_sL, aL_sA, aL_sM, BcloseRow_0, BcloseRow_37, BcloseRow_52, BcloseRow_53, BcloseRow_65, BcloseRow_67, BcloseRow_71, BcloseRow_117, BcloseRow_122, BcloseRow_128, oi_0, oi_1, oi_1000, oi_3, oi_54, oi_9, Pu_emit, Pu_leave]; try dsimp only
          intro p39
          refine ⟨trivial, fun w40 τ40 hq40 => ?_⟩
          obtain ⟨rfl, hE40⟩ := hq40
          have hR40 := SR.em (e_ := 0) (s := (accY s)) (n := n) (by repeat (first | exact hR26 | refine SR.i ?_ rfl | refine SR.a ?_ rfl)) hE40
          have hf40 := frR_em hE40
          dsimp only [Option.toList, List.cons_append, List.nil_append, Nat.beq, gI_sI, gI_sL, gI_sA, gI_sM, gL_sI, gL_sL, gL_sA, gL_sM, aI_sI, aI_sL, aI_sA, aI_sM, aL_sI, aL_sL, aL_sA, aL_sM]
          have h62_ : 0 < gI τ40 62 := by rw [hE40.1 62 (by decide), hS26.1 62 (by decide)]; exact hop
          obtain ⟨hRp, hgp⟩ := SR.pop hR40 h62_
          have hFp := frR_pop h62_
          unfold Qv_closeRow
          try dsimp only
          refine Or.inr ⟨rfl, accY s, n + 1, 0, hRp, hgp, ?_⟩
          have e : (frR σ).tail = [] := by rw [hFq]; exact nil_tail hR hFq (by lia)
          have e2 : frR (sI τ40 62 (gI τ40 62 - 1)) = [] := by
            have q := hFp
            rw [hf40, hf26, frR_a (by decide), hFq] at q
            have q := (List.cons.inj q).2
            rw [← q]
            exact nil_tail hR hFq (by lia)
          rw [frR_i (by decide), e2, e, cl_ct hcd, show sort = 0 by lia]
          rfl
  next => exact hP.elim
theorem w_closeRow : UMet 67 (fun _ _ => True) Qw_closeRow := fun A1 σ _ w τ h s n hP => v_closeRow s n A1 σ hP w τ h
def Pv_statement (s : SpC) (n : Nat) : UP1 := fun A1 σ => match A1 with
  | [] => SR σ s n ∧ FgR σ 0 ∧ frR σ ≠ []
  | _ => False
def Qv_statement (s : SpC) (n : Nat) : UQ1 := fun A1 σ w τ => match A1 with
  | [] => StQ τ (sfY (frR σ) n (stY n s)) w
  | _ => False
def Qw_statement : UQ1 := fun A1 σ w τ => ∀ (s : SpC) (n : Nat), Pv_statement s n A1 σ → Qv_statement s n A1 σ w τ
set_option maxRecDepth 100000 in
set_option maxHeartbeats 4000000 in
theorem v_statement (s : SpC) (n : Nat) : UMet 49 (Pv_statement s n) (Qv_statement s n) := by
  refine UMet.by Bstatement [(55, (fun _ _ => True), Qw_doOf), (20, Pu_emit, Qu_emit), (57, (fun _ _ => True), Qw_forOf), (65, (fun _ _ => True), Qw_gives), (53, (fun _ _ => True), Qw_ifOf), (14, (fun _ _ => True), Qw_isSign), (16, (fun _ _ => True), Qw_isSignAt), (62, (fun _ _ => True), Qw_jump), (36, (fun _ _ => True), Qw_open), (50, (fun _ _ => True), Qw_plain), (58, (fun _ _ => True), Qw_switchOf), (17, (fun _ _ => True), Qw_take), (35, Pu_thing, Qu_thing), (66, (fun _ _ => True), Qw_tryOf), (54, (fun _ _ => True), Qw_whileOf)] rfl (ucc w_doOf (ucc u_emit (ucc w_forOf (ucc w_gives (ucc w_ifOf (ucc w_isSign (ucc w_isSignAt (ucc w_jump (ucc w_open (ucc w_plain (ucc w_switchOf (ucc w_take (ucc u_thing (ucc w_tryOf (ucc w_whileOf uc0))))))))))))))) ?_
  intro A1 σ hP K hB hW
  unfold Pv_statement at hP
  split at hP
  next =>
    obtain ⟨hR, hg, hne⟩ := hP
    have hnn := hR.2.1
    have hm6 := hR.2.2.1.2.2.resolve_left hne
    intro n0_
    refine hB _ _ _ _ _ (fun m1 hm1 => ?_)
    dsimp only [ugo, uwp, ust, uct, rfd, Bstatement, Nat.beq, lv_args, rlk, rs1, rs2, rdl, rky, rcd, rno, rsw, Value.category, List.filter, List.take, List.drop, List.reverse, List.reverseAux, List.cons_append, List.nil_append, Option.toList, Int.toNat, Int.reduceToNat, if_pos, if_neg, reduceIte, ↓reduceIte, Nat.reduceAdd, Nat.reduceEqDiff, Nat.reduceBEq, beq_self_eq_true, Bool.not_true, Bool.not_false, Bool.and_true, Bool.and_false, Bool.true_and, Bool.false_and, gI_sI, gI_sL, gI_sA, gI_sM, gL_sI, gL_sL, gL_sA, gL_sM, aI_sI, aI_sL, aI_sA, aI_sM, aL_sI, aL_sL, aL_sA, aL_sM, Bstatement_0, Bstatement_14, Bstatement_37, Bstatement_47, Bstatement_51, Bstatement_52, Bstatement_53, Bstatement_63, Bstatement_75, Bstatement_108, Bstatement_115, Bstatement_126, Bstatement_130, Bstatement_131, Bstatement_132, Bstatement_142, Bstatement_147, Bstatement_220, Bstatement_225, Bstatement_230, Bstatement_235, Bstatement_240, Bstatement_245, Bstatement_250, Bstatement_255, Bstatement_260, oi_0, oi_1, oi_123, oi_20, oi_4, oi_41, oi_58, oi_7, Pu_emit, Pu_thing]; try dsimp only
    refine ⟨trivial, fun w2 τ2 hq2 => ?_⟩
    obtain ⟨rfl, b2, rfl, hb2⟩ := hq2 trivial
    have he2 := (XrR.s (SR.x (e_ := 0) (by repeat (first | exact hR | refine SR.i ?_ rfl | refine SR.a ?_ rfl)))).sg (x := 123) (d := 2) (by decide)
    rcases hb2 with ⟨rfl, hk2⟩ | ⟨rfl, hk2⟩
    · dsimp only [Option.toList, List.cons_append, List.nil_append, Nat.beq, gI_sI, gI_sL, gI_sA, gI_sM, gL_sI, gL_sL, gL_sA, gL_sM, aI_sI, aI_sL, aI_sA, aI_sM, aL_sI, aL_sL, aL_sA, aL_sM]
      have hc2 : codY s = 2 := he2.mp hk2
      refine ⟨fun h3 => absurd h3 (by decide), fun h3 => ?_⟩
      clear h3
      refine hB _ _ _ _ _ (fun m4 hm4 => ?_)
      dsimp only [ugo, uwp, ust, uct, rfd, Bstatement, Nat.beq, lv_args, rlk, rs1, rs2, rdl, rky, rcd, rno, rsw, Value.category, List.filter, List.take, List.drop, List.reverse, List.reverseAux, List.cons_append, List.nil_append, Option.toList, Int.toNat, Int.reduceToNat, if_pos, if_neg, reduceIte, ↓reduceIte, Nat.reduceAdd, Nat.reduceEqDiff, Nat.reduceBEq, beq_self_eq_true, Bool.not_true, Bool.not_false, Bool.and_true, Bool.and_false, Bool.true_and, Bool.false_and, gI_sI, gI_sL, gI_sA, gI_sM, gL_sI, gL_sL, gL_sA, gL_sM, aI_sI, aI_sL, aI_sA, aI_sM, aL_sI, aL_sL, aL_sA, aL_sM, Bstatement_0, Bstatement_14, Bstatement_37, Bstatement_47, Bstatement_51, Bstatement_52, Bstatement_53, Bstatement_63, Bstatement_75, Bstatement_108, Bstatement_115, Bstatement_126, Bstatement_130, Bstatement_131, Bstatement_132, Bstatement_142, Bstatement_147, Bstatement_220, Bstatement_225, Bstatement_230, Bstatement_235, Bstatement_240, Bstatement_245, Bstatement_250, Bstatement_255, Bstatement_260, oi_0, oi_1, oi_123, oi_20, oi_4, oi_41, oi_58, oi_7, Pu_emit, Pu_thing]; try dsimp only
      have hcb : codY s = 2 := hc2
      refine ⟨trivial, fun w5 τ5 hq5 => ?_⟩
      obtain ⟨rfl, hE5⟩ := hq5
      have hR5 := SR.em (e_ := 0) (s := s) (n := n) (by repeat (first | exact hR | refine SR.i ?_ rfl | refine SR.a ?_ rfl)) hE5
      have hg5 := FgR.em (e_ := 0) (by repeat (first | exact hg | refine FgR.i ?_ rfl | refine FgR.a ?_ rfl)) (s := s) (n := n) (by repeat (first | exact hR | refine SR.i ?_ rfl | refine SR.a ?_ rfl)) hE5
      have hf5 := frR_em hE5
      dsimp only [Option.toList, List.cons_append, List.nil_append, Nat.beq, gI_sI, gI_sL, gI_sA, gI_sM, gL_sI, gL_sL, gL_sA, gL_sM, aI_sI, aI_sL, aI_sA, aI_sM, aL_sI, aL_sL, aL_sA, aL_sM]
      have k6_5 : 0 < gI τ5 36 := by rw [hE5.1 36 (by decide)]; exact hm6
      refine ⟨trivial, fun w6 τ6 hq6 => ?_⟩
      obtain ⟨rfl, hT6⟩ := hq6
      have hR6 := SR.th (e_ := 0) (s := s) (n := n) (by repeat (first | exact hR5 | refine SR.i ?_ rfl | refine SR.a ?_ rfl)) hT6
      have hg6 := FgR.th (e_ := 0) (by repeat (first | exact hg5 | refine FgR.i ?_ rfl | refine FgR.a ?_ rfl)) (s := s) (n := n) (by repeat (first | exact hR5 | refine SR.i ?_ rfl | refine SR.a ?_ rfl)) hT6
      have hf6 := frR_th hT6
      have hk6 := th49 hT6
      dsimp only [Option.toList, List.cons_append, List.nil_append, Nat.beq, gI_sI, gI_sL, gI_sA, gI_sM, gL_sI, gL_sL, gL_sA, gL_sM, aI_sI, aI_sL, aI_sA, aI_sM, aL_sI, aL_sL, aL_sA, aL_sM]
      have k6_6 : 0 < gI τ6 36 := by rw [hT6.1 36 (by decide)]; exact k6_5
      have k9_6 : nT (gI τ5 49) < nT (gI τ6 49) := kthx hk6
      refine ⟨trivial, fun w7 τ7 hq7 => ?_⟩
      have hq7 := hq7 _ s n ⟨(SR.x (e_ := 0) (by repeat (first | exact hR6 | refine SR.i ?_ rfl | refine SR.a ?_ rfl))), by omega, by omega⟩
      rcases hq7 with ⟨rfl, hF7⟩ | ⟨rfl, hX7, hz7, hS7⟩
      · dsimp only [Option.toList, List.cons_append, List.nil_append, Nat.beq, gI_sI, gI_sL, gI_sA, gI_sM, gL_sI, gL_sL, gL_sA, gL_sM, aI_sI, aI_sL, aI_sA, aI_sM, aL_sI, aL_sL, aL_sA, aL_sM]
        refine ⟨fun h8 => ?_, fun h8 => absurd h8 (by decide)⟩
        clear h8
        refine hB _ _ _ _ _ (fun m9 hm9 => ?_)
        dsimp only [ugo, uwp, ust, uct, rfd, Bstatement, Nat.beq, lv_args, rlk, rs1, rs2, rdl, rky, rcd, rno, rsw, Value.category, List.filter, List.take, List.drop, List.reverse, List.reverseAux, List.cons_append, List.nil_append, Option.toList, Int.toNat, Int.reduceToNat, if_pos, if_neg, reduceIte, ↓reduceIte, Nat.reduceAdd, Nat.reduceEqDiff, Nat.reduceBEq, beq_self_eq_true, Bool.not_true, Bool.not_false, Bool.and_true, Bool.and_false, Bool.true_and, Bool.false_and, gI_sI, gI_sL, gI_sA, gI_sM, gL_sI, gL_sL, gL_sA, gL_sM, aI_sI, aI_sL, aI_sA, aI_sM, aL_sI, aL_sL, aL_sA, aL_sM, Bstatement_0, Bstatement_14, Bstatement_37, Bstatement_47, Bstatement_51, Bstatement_52, Bstatement_53, Bstatement_63, Bstatement_75, Bstatement_108, Bstatement_115, Bstatement_126, Bstatement_130, Bstatement_131, Bstatement_132, Bstatement_142, Bstatement_147, Bstatement_220, Bstatement_225, Bstatement_230, Bstatement_235, Bstatement_240, Bstatement_245, Bstatement_250, Bstatement_255, Bstatement_260, oi_0, oi_1, oi_123, oi_20, oi_4, oi_41, oi_58, oi_7, Pu_emit, Pu_thing]; try dsimp only
        refine hB _ _ _ _ _ (fun m10 hm10 => ?_)
        dsimp only [ugo, uwp, ust, uct, rfd, Bstatement, Nat.beq, lv_args, rlk, rs1, rs2, rdl, rky, rcd, rno, rsw, Value.category, List.filter, List.take, List.drop, List.reverse, List.reverseAux, List.cons_append, List.nil_append, Option.toList, Int.toNat, Int.reduceToNat, if_pos, if_neg, reduceIte, ↓reduceIte, Nat.reduceAdd, Nat.reduceEqDiff, Nat.reduceBEq, beq_self_eq_true, Bool.not_true, Bool.not_false, Bool.and_true, Bool.and_false, Bool.true_and, Bool.false_and, gI_sI, gI_sL, gI_sA, gI_sM, gL_sI, gL_sL, gL_sA, gL_sM, aI_sI, aI_sL, aI_sA, aI_sM, aL_sI, aL_sL, aL_sA, aL_sM, Bstatement_0, Bstatement_14, Bstatement_37, Bstatement_47, Bstatement_51, Bstatement_52, Bstatement_53, Bstatement_63, Bstatement_75, Bstatement_108, Bstatement_115, Bstatement_126, Bstatement_130, Bstatement_131, Bstatement_132, Bstatement_142, Bstatement_147, Bstatement_220, Bstatement_225, Bstatement_230, Bstatement_235, Bstatement_240, Bstatement_245, Bstatement_250, Bstatement_255, Bstatement_260, oi_0, oi_1, oi_123, oi_20, oi_4, oi_41, oi_58, oi_7, Pu_emit, Pu_thing]; try dsimp only
        unfold Qv_statement
        try dsimp only
        rw [st_blk' hnn.2.1 hcb]
        refine StQ.f hF7 ?_
        exact (by repeat (first | with_reducible exact GpY.rf | with_reducible refine GpY.tr ?_ (gd_fo _) | with_reducible refine GpY.tr ?_ (gd_ef _) | with_reducible refine GpY.tr ?_ (gd_cf _) | with_reducible refine GpY.tr ?_ (gd_wt _) | with_reducible refine GpY.tr ?_ (gd_xp _) | with_reducible refine GpY.tr ?_ (gd_acc _) | with_reducible refine GpY.tr ?_ (gd_rai _) | with_reducible refine GpY.tr ?_ (gd_e _) | with_reducible refine GpY.tr ?_ (gd_o _) | with_reducible refine GpY.tr ?_ (gd_c _) | with_reducible refine GpY.tr ?_ (gd_op _) | with_reducible refine GpY.tr ?_ (gd_clp gd_e _ _) | with_reducible refine GpY.tr ?_ (gd_tl _) | with_reducible refine GpY.tr ?_ (gd_sf _ _ _) | with_reducible refine GpY.tr ?_ (gd_cl _) | with_reducible refine GpY.tr ?_ (gd_pc _) | with_reducible refine GpY.tr ?_ (gd_st _) | with_reducible refine GpY.tr ?_ (gd_rw _) | with_reducible refine GpY.tr ?_ (gd_typ _) | with_reducible refine GpY.tr ?_ (gd_dcl _) | with_reducible refine GpY.tr ?_ (gd_va2 _) | with_reducible refine GpY.tr ?_ (gd_cnd _) | with_reducible refine GpY.tr ?_ (gd_tr1 _) | with_reducible refine GpY.tr ?_ (gd_tr2 (fun _ => gd_rw) _) | with_reducible refine GpY.tr ?_ (gd_tr3 (fun _ => gd_rw) _) | with_reducible refine GpY.tr ?_ (gd_fo1 _) | with_reducible refine GpY.tr ?_ (gd_fo2 _) | with_reducible refine GpY.tr ?_ (gd_fo3 _) | with_reducible refine GpY.tr ?_ (gd_fex _) | with_reducible refine GpY.tr ?_ (pg_var.1) | with_reducible refine GpY.tr ?_ (pg_cas.1) | exact GpY.rf))
      · dsimp only [Option.toList, List.cons_append, List.nil_append, Nat.beq, gI_sI, gI_sL, gI_sA, gI_sM, gL_sI, gL_sL, gL_sA, gL_sM, aI_sI, aI_sL, aI_sA, aI_sM, aL_sI, aL_sL, aL_sA, aL_sM]
        have hR7 := SR.kr (e_ := 0) (by repeat (first | exact hR6 | refine SR.i ?_ rfl | refine SR.a ?_ rfl)) hX7 acc2
        have hg7 := FgR.kr (e_ := 0) (s := s) (n := n) (by repeat (first | exact hg6 | refine FgR.i ?_ rfl | refine FgR.a ?_ rfl)) (by repeat (first | exact hR6 | refine SR.i ?_ rfl | refine SR.a ?_ rfl)) hX7
        have hf7 := frR_kr hX7
        have k6_7 : 0 < gI τ7 36 := by rw [hX7.2.2.1.1 36 rfl]; exact k6_6
        have k9_7 : nT (gI τ5 49) < nT (gI τ7 49) := by rw [hX7.2.2.1.1 49 rfl]; exact k9_6
        refine ⟨fun h11 => absurd h11 (by decide), fun h11 => ?_⟩
        clear h11
        refine hB _ _ _ _ _ (fun m12 hm12 => ?_)
        dsimp only [ugo, uwp, ust, uct, rfd, Bstatement, Nat.beq, lv_args, rlk, rs1, rs2, rdl, rky, rcd, rno, rsw, Value.category, List.filter, List.take, List.drop, List.reverse, List.reverseAux, List.cons_append, List.nil_append, Option.toList, Int.toNat, Int.reduceToNat, if_pos, if_neg, reduceIte, ↓reduceIte, Nat.reduceAdd, Nat.reduceEqDiff, Nat.reduceBEq, beq_self_eq_true, Bool.not_true, Bool.not_false, Bool.and_true, Bool.and_false, Bool.true_and, Bool.false_and, gI_sI, gI_sL, gI_sA, gI_sM, gL_sI, gL_sL, gL_sA, gL_sM, aI_sI, aI_sL, aI_sA, aI_sM, aL_sI, aL_sL, aL_sA, aL_sM, Bstatement_0, Bstatement_14, Bstatement_37, Bstatement_47, Bstatement_51, Bstatement_52, Bstatement_53, Bstatement_63, Bstatement_75, Bstatement_108, Bstatement_115, Bstatement_126, Bstatement_130, Bstatement_131, Bstatement_132, Bstatement_142, Bstatement_147, Bstatement_220, Bstatement_225, Bstatement_230, Bstatement_235, Bstatement_240, Bstatement_245, Bstatement_250, Bstatement_255, Bstatement_260, oi_0, oi_1, oi_123, oi_20, oi_4, oi_41, oi_58, oi_7, Pu_emit, Pu_thing]; try dsimp only
        refine ⟨trivial, fun w13 τ13 hq13 => ?_⟩
        have hq13 := hq13 (accY s) n ⟨(by repeat (first | exact hR7 | refine SR.i ?_ rfl | refine SR.a ?_ rfl)), (by repeat (first | exact hg7 | refine FgR.i ?_ rfl | refine FgR.a ?_ rfl)), k9_7, by decide, (iff_of_false (by decide) (by (try simp only [frR_i, frR_a, ne_eq, Nat.reduceEqDiff, not_false_eq_true, hf7, hf6, hf5]); exact hne)), k6_7, (fun q => absurd q (by decide))⟩
        rcases hq13 with ⟨rfl, hn13, hF13⟩ | ⟨rfl, hn13, hR13, hg13, hf13⟩
        · dsimp only [Option.toList, List.cons_append, List.nil_append, Nat.beq, gI_sI, gI_sL, gI_sA, gI_sM, gL_sI, gL_sL, gL_sA, gL_sM, aI_sI, aI_sL, aI_sA, aI_sM, aL_sI, aL_sL, aL_sA, aL_sM]
          refine ⟨fun h14 => ?_, fun h14 => absurd h14 (by decide)⟩
          clear h14
          refine hB _ _ _ _ _ (fun m15 hm15 => ?_)
          dsimp only [ugo, uwp, ust, uct, rfd, Bstatement, Nat.beq, lv_args, rlk, rs1, rs2, rdl, rky, rcd, rno, rsw, Value.category, List.filter, List.take, List.drop, List.reverse, List.reverseAux, List.cons_append, List.nil_append, Option.toList, Int.toNat, Int.reduceToNat, if_pos, if_neg, reduceIte, ↓reduceIte, Nat.reduceAdd, Nat.reduceEqDiff, Nat.reduceBEq, beq_self_eq_true, Bool.not_true, Bool.not_false, Bool.and_true, Bool.and_false, Bool.true_and, Bool.false_and, gI_sI, gI_sL, gI_sA, gI_sM, gL_sI, gL_sL, gL_sA, gL_sM, aI_sI, aI_sL, aI_sA, aI_sM, aL_sI, aL_sL, aL_sA, aL_sM, Bstatement_0, Bstatement_14, Bstatement_37, Bstatement_47, Bstatement_51, Bstatement_52, Bstatement_53, Bstatement_63, Bstatement_75, Bstatement_108, Bstatement_115, Bstatement_126, Bstatement_130, Bstatement_131, Bstatement_132, Bstatement_142, Bstatement_147, Bstatement_220, Bstatement_225, Bstatement_230, Bstatement_235, Bstatement_240, Bstatement_245, Bstatement_250, Bstatement_255, Bstatement_260, oi_0, oi_1, oi_123, oi_20, oi_4, oi_41, oi_58, oi_7, Pu_emit, Pu_thing]; try dsimp only
          refine hB _ _ _ _ _ (fun m16 hm16 => ?_)
          dsimp only [ugo, uwp, ust, uct, rfd, Bstatement, Nat.beq, lv_args, rlk, rs1, rs2, rdl, rky, rcd, rno, rsw, Value.category, List.filter, List.take, List.drop, List.reverse, List.reverseAux, List.cons_append, List.nil_append, Option.toList, Int.toNat, Int.reduceToNat, if_pos, if_neg, reduceIte, ↓reduceIte, Nat.reduceAdd, Nat.reduceEqDiff, Nat.reduceBEq, beq_self_eq_true, Bool.not_true, Bool.not_false, Bool.and_true, Bool.and_false, Bool.true_and, Bool.false_and, gI_sI, gI_sL, gI_sA, gI_sM, gL_sI, gL_sL, gL_sA, gL_sM, aI_sI, aI_sL, aI_sA, aI_sM, aL_sI, aL_sL, aL_sA, aL_sM, Bstatement_0, Bstatement_14, Bstatement_37, Bstatement_47, Bstatement_51, Bstatement_52, Bstatement_53, Bstatement_63, Bstatement_75, Bstatement_108, Bstatement_115, Bstatement_126, Bstatement_130, Bstatement_131, Bstatement_132, Bstatement_142, Bstatement_147, Bstatement_220, Bstatement_225, Bstatement_230, Bstatement_235, Bstatement_240, Bstatement_245, Bstatement_250, Bstatement_255, Bstatement_260, oi_0, oi_1, oi_123, oi_20, oi_4, oi_41, oi_58, oi_7, Pu_emit, Pu_thing]; try dsimp only
          unfold Qv_statement
          try dsimp only
          rw [st_blk' hnn.2.1 hcb, rw_0 hn13]
          refine StQ.f hF13 ?_
          exact (by repeat (first | with_reducible exact GpY.rf | with_reducible refine GpY.tr ?_ (gd_fo _) | with_reducible refine GpY.tr ?_ (gd_ef _) | with_reducible refine GpY.tr ?_ (gd_cf _) | with_reducible refine GpY.tr ?_ (gd_wt _) | with_reducible refine GpY.tr ?_ (gd_xp _) | with_reducible refine GpY.tr ?_ (gd_acc _) | with_reducible refine GpY.tr ?_ (gd_rai _) | with_reducible refine GpY.tr ?_ (gd_e _) | with_reducible refine GpY.tr ?_ (gd_o _) | with_reducible refine GpY.tr ?_ (gd_c _) | with_reducible refine GpY.tr ?_ (gd_op _) | with_reducible refine GpY.tr ?_ (gd_clp gd_e _ _) | with_reducible refine GpY.tr ?_ (gd_tl _) | with_reducible refine GpY.tr ?_ (gd_sf _ _ _) | with_reducible refine GpY.tr ?_ (gd_cl _) | with_reducible refine GpY.tr ?_ (gd_pc _) | with_reducible refine GpY.tr ?_ (gd_st _) | with_reducible refine GpY.tr ?_ (gd_rw _) | with_reducible refine GpY.tr ?_ (gd_typ _) | with_reducible refine GpY.tr ?_ (gd_dcl _) | with_reducible refine GpY.tr ?_ (gd_va2 _) | with_reducible refine GpY.tr ?_ (gd_cnd _) | with_reducible refine GpY.tr ?_ (gd_tr1 _) | with_reducible refine GpY.tr ?_ (gd_tr2 (fun _ => gd_rw) _) | with_reducible refine GpY.tr ?_ (gd_tr3 (fun _ => gd_rw) _) | with_reducible refine GpY.tr ?_ (gd_fo1 _) | with_reducible refine GpY.tr ?_ (gd_fo2 _) | with_reducible refine GpY.tr ?_ (gd_fo3 _) | with_reducible refine GpY.tr ?_ (gd_fex _) | with_reducible refine GpY.tr ?_ (pg_var.1) | with_reducible refine GpY.tr ?_ (pg_cas.1) | exact GpY.rf))
        · dsimp only [Option.toList, List.cons_append, List.nil_append, Nat.beq, gI_sI, gI_sL, gI_sA, gI_sM, gL_sI, gL_sL, gL_sA, gL_sM, aI_sI, aI_sL, aI_sA, aI_sM, aL_sI, aL_sL, aL_sA, aL_sM]
          have hf13 : frR τ13 = (1 : Int) :: _ := hf13
          refine ⟨fun h17 => absurd h17 (by decide), fun h17 => ?_⟩
          clear h17
          refine hB _ _ _ _ _ (fun m18 hm18 => ?_)
          dsimp only [ugo, uwp, ust, uct, rfd, Bstatement, Nat.beq, lv_args, rlk, rs1, rs2, rdl, rky, rcd, rno, rsw, Value.category, List.filter, List.take, List.drop, List.reverse, List.reverseAux, List.cons_append, List.nil_append, Option.toList, Int.toNat, Int.reduceToNat, if_pos, if_neg, reduceIte, ↓reduceIte, Nat.reduceAdd, Nat.reduceEqDiff, Nat.reduceBEq, beq_self_eq_true, Bool.not_true, Bool.not_false, Bool.and_true, Bool.and_false, Bool.true_and, Bool.false_and, gI_sI, gI_sL, gI_sA, gI_sM, gL_sI, gL_sL, gL_sA, gL_sM, aI_sI, aI_sL, aI_sA, aI_sM, aL_sI, aL_sL, aL_sA, aL_sM, Bstatement_0, Bstatement_14, Bstatement_37, Bstatement_47, Bstatement_51, Bstatement_52, Bstatement_53, Bstatement_63, Bstatement_75, Bstatement_108, Bstatement_115, Bstatement_126, Bstatement_130, Bstatement_131, Bstatement_132, Bstatement_142, Bstatement_147, Bstatement_220, Bstatement_225, Bstatement_230, Bstatement_235, Bstatement_240, Bstatement_245, Bstatement_250, Bstatement_255, Bstatement_260, oi_0, oi_1, oi_123, oi_20, oi_4, oi_41, oi_58, oi_7, Pu_emit, Pu_thing]; try dsimp only
          refine hB _ _ _ _ _ (fun m19 hm19 => ?_)
          dsimp only [ugo, uwp, ust, uct, rfd, Bstatement, Nat.beq, lv_args, rlk, rs1, rs2, rdl, rky, rcd, rno, rsw, Value.category, List.filter, List.take, List.drop, List.reverse, List.reverseAux, List.cons_append, List.nil_append, Option.toList, Int.toNat, Int.reduceToNat, if_pos, if_neg, reduceIte, ↓reduceIte, Nat.reduceAdd, Nat.reduceEqDiff, Nat.reduceBEq, beq_self_eq_true, Bool.not_true, Bool.not_false, Bool.and_true, Bool.and_false, Bool.true_and, Bool.false_and, gI_sI, gI_sL, gI_sA, gI_sM, gL_sI, gL_sL, gL_sA, gL_sM, aI_sI, aI_sL, aI_sA, aI_sM, aL_sI, aL_sL, aL_sA, aL_sM, Bstatement_0, Bstatement_14, Bstatement_37, Bstatement_47, Bstatement_51, Bstatement_52, Bstatement_53, Bstatement_63, Bstatement_75, Bstatement_108, Bstatement_115, Bstatement_126, Bstatement_130, Bstatement_131, Bstatement_132, Bstatement_142, Bstatement_147, Bstatement_220, Bstatement_225, Bstatement_230, Bstatement_235, Bstatement_240, Bstatement_245, Bstatement_250, Bstatement_255, Bstatement_260, oi_0, oi_1, oi_123, oi_20, oi_4, oi_41, oi_58, oi_7, Pu_emit, Pu_thing]; try dsimp only
          unfold Qv_statement
          try dsimp only
          refine Or.inr ⟨rfl, (accY s), (n - 1), 1, (by repeat (first | exact hR13 | refine SR.i ?_ rfl | refine SR.a ?_ rfl)), (by repeat (first | exact hg13 | refine FgR.i ?_ rfl | refine FgR.a ?_ rfl)), ?_⟩
          rw [st_blk' hnn.2.1 hcb]
          simp only [frR_i, frR_a, ne_eq, Nat.reduceEqDiff, not_false_eq_true, hf13, hf7, hf6, hf5]
          exact (cl_rw' (k := 1) hn13 (by decide)).symm
    · dsimp only [Option.toList, List.cons_append, List.nil_append, Nat.beq, gI_sI, gI_sL, gI_sA, gI_sM, gL_sI, gL_sL, gL_sA, gL_sM, aI_sI, aI_sL, aI_sA, aI_sM, aL_sI, aL_sL, aL_sA, aL_sM]
      have hc2 : ¬ codY s = 2 := fun q => hk2 (he2.mpr q)
      refine ⟨fun h20 => ?_, fun h20 => absurd h20 (by decide)⟩
      clear h20
      refine hB _ _ _ _ _ (fun m21 hm21 => ?_)
      dsimp only [ugo, uwp, ust, uct, rfd, Bstatement, Nat.beq, lv_args, rlk, rs1, rs2, rdl, rky, rcd, rno, rsw, Value.category, List.filter, List.take, List.drop, List.reverse, List.reverseAux, List.cons_append, List.nil_append, Option.toList, Int.toNat, Int.reduceToNat, if_pos, if_neg, reduceIte, ↓reduceIte, Nat.reduceAdd, Nat.reduceEqDiff, Nat.reduceBEq, beq_self_eq_true, Bool.not_true, Bool.not_false, Bool.and_true, Bool.and_false, Bool.true_and, Bool.false_and, gI_sI, gI_sL, gI_sA, gI_sM, gL_sI, gL_sL, gL_sA, gL_sM, aI_sI, aI_sL, aI_sA, aI_sM, aL_sI, aL_sL, aL_sA, aL_sM, Bstatement_0, Bstatement_14, Bstatement_37, Bstatement_47, Bstatement_51, Bstatement_52, Bstatement_53, Bstatement_63, Bstatement_75, Bstatement_108, Bstatement_115, Bstatement_126, Bstatement_130, Bstatement_131, Bstatement_132, Bstatement_142, Bstatement_147, Bstatement_220, Bstatement_225, Bstatement_230, Bstatement_235, Bstatement_240, Bstatement_245, Bstatement_250, Bstatement_255, Bstatement_260, oi_0, oi_1, oi_123, oi_20, oi_4, oi_41, oi_58, oi_7, Pu_emit, Pu_thing]; try dsimp only
      intro p22
      refine ⟨fun h23 => ?_, fun h23 => ?_⟩
      · refine hB _ _ _ _ _ (fun m24 hm24 => ?_)
        dsimp only [ugo, uwp, ust, uct, rfd, Bstatement, Nat.beq, lv_args, rlk, rs1, rs2, rdl, rky, rcd, rno, rsw, Value.category, List.filter, List.take, List.drop, List.reverse, List.reverseAux, List.cons_append, List.nil_append, Option.toList, Int.toNat, Int.reduceToNat, if_pos, if_neg, reduceIte, ↓reduceIte, Nat.reduceAdd, Nat.reduceEqDiff, Nat.reduceBEq, beq_self_eq_true, Bool.not_true, Bool.not_false, Bool.and_true, Bool.and_false, Bool.true_and, Bool.false_and, gI_sI, gI_sL, gI_sA, gI_sM, gL_sI, gL_sL, gL_sA, gL_sM, aI_sI, aI_sL, aI_sA, aI_sM, aL_sI, aL_sL, aL_sA, aL_sM, Bstatement_0, Bstatement_14, Bstatement_37, Bstatement_47, Bstatement_51, Bstatement_52, Bstatement_53, Bstatement_63, Bstatement_75, Bstatement_108, Bstatement_115, Bstatement_126, Bstatement_130, Bstatement_131, Bstatement_132, Bstatement_142, Bstatement_147, Bstatement_220, Bstatement_225, Bstatement_230, Bstatement_235, Bstatement_240, Bstatement_245, Bstatement_250, Bstatement_255, Bstatement_260, oi_0, oi_1, oi_123, oi_20, oi_4, oi_41, oi_58, oi_7, Pu_emit, Pu_thing]; try dsimp only
        intro p25
        refine ⟨fun h26 => ?_, fun h26 => ?_⟩
        · refine hB _ _ _ _ _ (fun m27 hm27 => ?_)
          dsimp only [ugo, uwp, ust, uct, rfd, Bstatement, Nat.beq, lv_args, rlk, rs1, rs2, rdl, rky, rcd, rno, rsw, Value.category, List.filter, List.take, List.drop, List.reverse, List.reverseAux, List.cons_append, List.nil_append, Option.toList, Int.toNat, Int.reduceToNat, if_pos, if_neg, reduceIte, ↓reduceIte, Nat.reduceAdd, Nat.reduceEqDiff, Nat.reduceBEq, beq_self_eq_true, Bool.not_true, Bool.not_false, Bool.and_true, Bool.and_false, Bool.true_and, Bool.false_and, gI_sI, gI_sL, gI_sA, gI_sM, gL_sI, gL_sL, gL_sA, gL_sM, aI_sI, aI_sL, aI_sA, aI_sM, aL_sI, aL_sL, aL_sA, aL_sM, Bstatement_0, Bstatement_14, Bstatement_37, Bstatement_47, Bstatement_51, Bstatement_52, Bstatement_53, Bstatement_63, Bstatement_75, Bstatement_108, Bstatement_115, Bstatement_126, Bstatement_130, Bstatement_131, Bstatement_132, Bstatement_142, Bstatement_147, Bstatement_220, Bstatement_225, Bstatement_230, Bstatement_235, Bstatement_240, Bstatement_245, Bstatement_250, Bstatement_255, Bstatement_260, oi_0, oi_1, oi_123, oi_20, oi_4, oi_41, oi_58, oi_7, Pu_emit, Pu_thing]; try dsimp only
          intro p28
          refine ⟨fun h29 => ?_, fun h29 => ?_⟩
          · refine hB _ _ _ _ _ (fun m30 hm30 => ?_)
            dsimp only [ugo, uwp, ust, uct, rfd, Bstatement, Nat.beq, lv_args, rlk, rs1, rs2, rdl, rky, rcd, rno, rsw, Value.category, List.filter, List.take, List.drop, List.reverse, List.reverseAux, List.cons_append, List.nil_append, Option.toList, Int.toNat, Int.reduceToNat, if_pos, if_neg, reduceIte, ↓reduceIte, Nat.reduceAdd, Nat.reduceEqDiff, Nat.reduceBEq, beq_self_eq_true, Bool.not_true, Bool.not_false, Bool.and_true, Bool.and_false, Bool.true_and, Bool.false_and, gI_sI, gI_sL, gI_sA, gI_sM, gL_sI, gL_sL, gL_sA, gL_sM, aI_sI, aI_sL, aI_sA, aI_sM, aL_sI, aL_sL, aL_sA, aL_sM, Bstatement_0, Bstatement_14, Bstatement_37, Bstatement_47, Bstatement_51, Bstatement_52, Bstatement_53, Bstatement_63, Bstatement_75, Bstatement_108, Bstatement_115, Bstatement_126, Bstatement_130, Bstatement_131, Bstatement_132, Bstatement_142, Bstatement_147, Bstatement_220, Bstatement_225, Bstatement_230, Bstatement_235, Bstatement_240, Bstatement_245, Bstatement_250, Bstatement_255, Bstatement_260, oi_0, oi_1, oi_123, oi_20, oi_4, oi_41, oi_58, oi_7, Pu_emit, Pu_thing]; try dsimp only
            have hcw : codY s = 56 := (SR.sh hR).wd (x := 6) (by decide) |>.mp ⟨by lia, Int32.toInt_inj.mp h29⟩
            refine ⟨trivial, fun w31 τ31 hq31 => ?_⟩
            have hq31 : StQ τ31 _ w31 := hq31 s n ⟨(by repeat (first | exact hR | refine SR.i ?_ rfl | refine SR.a ?_ rfl)), (by repeat (first | exact hg | refine FgR.i ?_ rfl | refine FgR.a ?_ rfl)), (by (try simp only [frR_i, frR_a, ne_eq, Nat.reduceEqDiff, not_false_eq_true]); exact hne), (by omega)⟩
            have hv31 : w31 = some (.int 0) ∨ w31 = some (.int 1) := hq31.imp (fun q => q.1) (fun q => q.1)
            rcases hv31 with rfl | rfl
            · dsimp only [Option.toList, List.cons_append, List.nil_append, Nat.beq, gI_sI, gI_sL, gI_sA, gI_sM, gL_sI, gL_sL, gL_sA, gL_sM, aI_sI, aI_sL, aI_sA, aI_sM, aL_sI, aL_sL, aL_sA, aL_sM]
              unfold Qv_statement
              try dsimp only
              first | exact hq31 | (have hq_ := hq31; (try simp only [frR_i, frR_a, ne_eq, Nat.reduceEqDiff, not_false_eq_true] at hq_); exact hq_)
            · dsimp only [Option.toList, List.cons_append, List.nil_append, Nat.beq, gI_sI, gI_sL, gI_sA, gI_sM, gL_sI, gL_sL, gL_sA, gL_sM, aI_sI, aI_sL, aI_sA, aI_sM, aL_sI, aL_sL, aL_sA, aL_sM]
              unfold Qv_statement
              try dsimp only
              first | exact hq31 | (have hq_ := hq31; (try simp only [frR_i, frR_a, ne_eq, Nat.reduceEqDiff, not_false_eq_true] at hq_); exact hq_)
          refine ⟨fun h32 => ?_, fun h32 => ?_⟩
          · refine hB _ _ _ _ _ (fun m33 hm33 => ?_)
            dsimp only [ugo, uwp, ust, uct, rfd, Bstatement, Nat.beq, lv_args, rlk, rs1, rs2, rdl, rky, rcd, rno, rsw, Value.category, List.filter, List.take, List.drop, List.reverse, List.reverseAux, List.cons_append, List.nil_append, Option.toList, Int.toNat, Int.reduceToNat, if_pos, if_neg, reduceIte, ↓reduceIte, Nat.reduceAdd, Nat.reduceEqDiff, Nat.reduceBEq, beq_self_eq_true, Bool.not_true, Bool.not_false, Bool.and_true, Bool.and_false, Bool.true_and, Bool.false_and, gI_sI, gI_sL, gI_sA, gI_sM, gL_sI, gL_sL, gL_sA, gL_sM, aI_sI, aI_sL, aI_sA, aI_sM, aL_sI, aL_sL, aL_sA, aL_sM, Bstatement_0, Bstatement_14, Bstatement_37, Bstatement_47, Bstatement_51, Bstatement_52, Bstatement_53, Bstatement_63, Bstatement_75, Bstatement_108, Bstatement_115, Bstatement_126, Bstatement_130, Bstatement_131, Bstatement_132, Bstatement_142, Bstatement_147, Bstatement_220, Bstatement_225, Bstatement_230, Bstatement_235, Bstatement_240, Bstatement_245, Bstatement_250, Bstatement_255, Bstatement_260, oi_0, oi_1, oi_123, oi_20, oi_4, oi_41, oi_58, oi_7, Pu_emit, Pu_thing]; try dsimp only
            have h6n : ¬ (codY s = 80 ∧ cobY s = 6) := fun q => h23 ((SR.sh hR).ki.2.2.1.mpr q.1)
            have hcw : codY s = 57 := (SR.sh hR).wd (x := 7) (by decide) |>.mp ⟨by lia, Int32.toInt_inj.mp h32⟩
            refine ⟨trivial, fun w34 τ34 hq34 => ?_⟩
            have hq34 : StQ τ34 _ w34 := hq34 s n ⟨(by repeat (first | exact hR | refine SR.i ?_ rfl | refine SR.a ?_ rfl)), (by repeat (first | exact hg | refine FgR.i ?_ rfl | refine FgR.a ?_ rfl)), (by (try simp only [frR_i, frR_a, ne_eq, Nat.reduceEqDiff, not_false_eq_true]); exact hne), (by refine ⟨?_, ?_, ?_, ?_, ?_, ?_, ?_, ?_, ?_, ?_, ?_, h6n⟩ <;> omega)⟩
            have hv34 : w34 = some (.int 0) ∨ w34 = some (.int 1) := hq34.imp (fun q => q.1) (fun q => q.1)
            rcases hv34 with rfl | rfl
            · dsimp only [Option.toList, List.cons_append, List.nil_append, Nat.beq, gI_sI, gI_sL, gI_sA, gI_sM, gL_sI, gL_sL, gL_sA, gL_sM, aI_sI, aI_sL, aI_sA, aI_sM, aL_sI, aL_sL, aL_sA, aL_sM]
              unfold Qv_statement
              try dsimp only
              first | exact hq34 | (have hq_ := hq34; (try simp only [frR_i, frR_a, ne_eq, Nat.reduceEqDiff, not_false_eq_true] at hq_); exact hq_)
            · dsimp only [Option.toList, List.cons_append, List.nil_append, Nat.beq, gI_sI, gI_sL, gI_sA, gI_sM, gL_sI, gL_sL, gL_sA, gL_sM, aI_sI, aI_sL, aI_sA, aI_sM, aL_sI, aL_sL, aL_sA, aL_sM]
              unfold Qv_statement
              try dsimp only
              first | exact hq34 | (have hq_ := hq34; (try simp only [frR_i, frR_a, ne_eq, Nat.reduceEqDiff, not_false_eq_true] at hq_); exact hq_)
          refine ⟨fun h35 => ?_, fun h35 => ?_⟩
          · refine hB _ _ _ _ _ (fun m36 hm36 => ?_)
            dsimp only [ugo, uwp, ust, uct, rfd, Bstatement, Nat.beq, lv_args, rlk, rs1, rs2, rdl, rky, rcd, rno, rsw, Value.category, List.filter, List.take, List.drop, List.reverse, List.reverseAux, List.cons_append, List.nil_append, Option.toList, Int.toNat, Int.reduceToNat, if_pos, if_neg, reduceIte, ↓reduceIte, Nat.reduceAdd, Nat.reduceEqDiff, Nat.reduceBEq, beq_self_eq_true, Bool.not_true, Bool.not_false, Bool.and_true, Bool.and_false, Bool.true_and, Bool.false_and, gI_sI, gI_sL, gI_sA, gI_sM, gL_sI, gL_sL, gL_sA, gL_sM, aI_sI, aI_sL, aI_sA, aI_sM, aL_sI, aL_sL, aL_sA, aL_sM, Bstatement_0, Bstatement_14, Bstatement_37, Bstatement_47, Bstatement_51, Bstatement_52, Bstatement_53, Bstatement_63, Bstatement_75, Bstatement_108, Bstatement_115, Bstatement_126, Bstatement_130, Bstatement_131, Bstatement_132, Bstatement_142, Bstatement_147, Bstatement_220, Bstatement_225, Bstatement_230, Bstatement_235, Bstatement_240, Bstatement_245, Bstatement_250, Bstatement_255, Bstatement_260, oi_0, oi_1, oi_123, oi_20, oi_4, oi_41, oi_58, oi_7, Pu_emit, Pu_thing]; try dsimp only
            have hcw : codY s = 58 := (SR.sh hR).wd (x := 8) (by decide) |>.mp ⟨by lia, Int32.toInt_inj.mp h35⟩
            refine ⟨trivial, fun w37 τ37 hq37 => ?_⟩
            have hq37 : StQ τ37 _ w37 := hq37 s n ⟨(by repeat (first | exact hR | refine SR.i ?_ rfl | refine SR.a ?_ rfl)), (by repeat (first | exact hg | refine FgR.i ?_ rfl | refine FgR.a ?_ rfl)), (by (try simp only [frR_i, frR_a, ne_eq, Nat.reduceEqDiff, not_false_eq_true]); exact hne), (by omega)⟩
            have hv37 : w37 = some (.int 0) ∨ w37 = some (.int 1) := hq37.imp (fun q => q.1) (fun q => q.1)
            rcases hv37 with rfl | rfl
            · dsimp only [Option.toList, List.cons_append, List.nil_append, Nat.beq, gI_sI, gI_sL, gI_sA, gI_sM, gL_sI, gL_sL, gL_sA, gL_sM, aI_sI, aI_sL, aI_sA, aI_sM, aL_sI, aL_sL, aL_sA, aL_sM]
              unfold Qv_statement
              try dsimp only
              first | exact hq37 | (have hq_ := hq37; (try simp only [frR_i, frR_a, ne_eq, Nat.reduceEqDiff, not_false_eq_true] at hq_); exact hq_)
            · dsimp only [Option.toList, List.cons_append, List.nil_append, Nat.beq, gI_sI, gI_sL, gI_sA, gI_sM, gL_sI, gL_sL, gL_sA, gL_sM, aI_sI, aI_sL, aI_sA, aI_sM, aL_sI, aL_sL, aL_sA, aL_sM]
              unfold Qv_statement
              try dsimp only
              first | exact hq37 | (have hq_ := hq37; (try simp only [frR_i, frR_a, ne_eq, Nat.reduceEqDiff, not_false_eq_true] at hq_); exact hq_)
          refine ⟨fun h38 => ?_, fun h38 => ?_⟩
          · refine hB _ _ _ _ _ (fun m39 hm39 => ?_)
            dsimp only [ugo, uwp, ust, uct, rfd, Bstatement, Nat.beq, lv_args, rlk, rs1, rs2, rdl, rky, rcd, rno, rsw, Value.category, List.filter, List.take, List.drop, List.reverse, List.reverseAux, List.cons_append, List.nil_append, Option.toList, Int.toNat, Int.reduceToNat, if_pos, if_neg, reduceIte, ↓reduceIte, Nat.reduceAdd, Nat.reduceEqDiff, Nat.reduceBEq, beq_self_eq_true, Bool.not_true, Bool.not_false, Bool.and_true, Bool.and_false, Bool.true_and, Bool.false_and, gI_sI, gI_sL, gI_sA, gI_sM, gL_sI, gL_sL, gL_sA, gL_sM, aI_sI, aI_sL, aI_sA, aI_sM, aL_sI, aL_sL, aL_sA, aL_sM, Bstatement_0, Bstatement_14, Bstatement_37, Bstatement_47, Bstatement_51, Bstatement_52, Bstatement_53, Bstatement_63, Bstatement_75, Bstatement_108, Bstatement_115, Bstatement_126, Bstatement_130, Bstatement_131, Bstatement_132, Bstatement_142, Bstatement_147, Bstatement_220, Bstatement_225, Bstatement_230, Bstatement_235, Bstatement_240, Bstatement_245, Bstatement_250, Bstatement_255, Bstatement_260, oi_0, oi_1, oi_123, oi_20, oi_4, oi_41, oi_58, oi_7, Pu_emit, Pu_thing]; try dsimp only
            have hcw : codY s = 60 := (SR.sh hR).wd (x := 9) (by decide) |>.mp ⟨by lia, Int32.toInt_inj.mp h38⟩
            refine ⟨trivial, fun w40 τ40 hq40 => ?_⟩
            have hq40 : StQ τ40 _ w40 := hq40 s n ⟨(by repeat (first | exact hR | refine SR.i ?_ rfl | refine SR.a ?_ rfl)), (by repeat (first | exact hg | refine FgR.i ?_ rfl | refine FgR.a ?_ rfl)), (by (try simp only [frR_i, frR_a, ne_eq, Nat.reduceEqDiff, not_false_eq_true]); exact hne), (by omega)⟩
            have hv40 : w40 = some (.int 0) ∨ w40 = some (.int 1) := hq40.imp (fun q => q.1) (fun q => q.1)
            rcases hv40 with rfl | rfl
            · dsimp only [Option.toList, List.cons_append, List.nil_append, Nat.beq, gI_sI, gI_sL, gI_sA, gI_sM, gL_sI, gL_sL, gL_sA, gL_sM, aI_sI, aI_sL, aI_sA, aI_sM, aL_sI, aL_sL, aL_sA, aL_sM]
              unfold Qv_statement
              try dsimp only
              first | exact hq40 | (have hq_ := hq40; (try simp only [frR_i, frR_a, ne_eq, Nat.reduceEqDiff, not_false_eq_true] at hq_); exact hq_)
            · dsimp only [Option.toList, List.cons_append, List.nil_append, Nat.beq, gI_sI, gI_sL, gI_sA, gI_sM, gL_sI, gL_sL, gL_sA, gL_sM, aI_sI, aI_sL, aI_sA, aI_sM, aL_sI, aL_sL, aL_sA, aL_sM]
              unfold Qv_statement
              try dsimp only
              first | exact hq40 | (have hq_ := hq40; (try simp only [frR_i, frR_a, ne_eq, Nat.reduceEqDiff, not_false_eq_true] at hq_); exact hq_)
          refine ⟨fun h41 => ?_, fun h41 => ?_⟩
          · refine hB _ _ _ _ _ (fun m42 hm42 => ?_)
            dsimp only [ugo, uwp, ust, uct, rfd, Bstatement, Nat.beq, lv_args, rlk, rs1, rs2, rdl, rky, rcd, rno, rsw, Value.category, List.filter, List.take, List.drop, List.reverse, List.reverseAux, List.cons_append, List.nil_append, Option.toList, Int.toNat, Int.reduceToNat, if_pos, if_neg, reduceIte, ↓reduceIte, Nat.reduceAdd, Nat.reduceEqDiff, Nat.reduceBEq, beq_self_eq_true, Bool.not_true, Bool.not_false, Bool.and_true, Bool.and_false, Bool.true_and, Bool.false_and, gI_sI, gI_sL, gI_sA, gI_sM, gL_sI, gL_sL, gL_sA, gL_sM, aI_sI, aI_sL, aI_sA, aI_sM, aL_sI, aL_sL, aL_sA, aL_sM, Bstatement_0, Bstatement_14, Bstatement_37, Bstatement_47, Bstatement_51, Bstatement_52, Bstatement_53, Bstatement_63, Bstatement_75, Bstatement_108, Bstatement_115, Bstatement_126, Bstatement_130, Bstatement_131, Bstatement_132, Bstatement_142, Bstatement_147, Bstatement_220, Bstatement_225, Bstatement_230, Bstatement_235, Bstatement_240, Bstatement_245, Bstatement_250, Bstatement_255, Bstatement_260, oi_0, oi_1, oi_123, oi_20, oi_4, oi_41, oi_58, oi_7, Pu_emit, Pu_thing]; try dsimp only
            have hcw : codY s = 59 := (SR.sh hR).wd (x := 10) (by decide) |>.mp ⟨by lia, Int32.toInt_inj.mp h41⟩
            refine ⟨trivial, fun w43 τ43 hq43 => ?_⟩
            have hq43 : StQ τ43 _ w43 := hq43 s n ⟨(by repeat (first | exact hR | refine SR.i ?_ rfl | refine SR.a ?_ rfl)), (by repeat (first | exact hg | refine FgR.i ?_ rfl | refine FgR.a ?_ rfl)), (by (try simp only [frR_i, frR_a, ne_eq, Nat.reduceEqDiff, not_false_eq_true]); exact hne), (by omega)⟩
            have hv43 : w43 = some (.int 0) ∨ w43 = some (.int 1) := hq43.imp (fun q => q.1) (fun q => q.1)
            rcases hv43 with rfl | rfl
            · dsimp only [Option.toList, List.cons_append, List.nil_append, Nat.beq, gI_sI, gI_sL, gI_sA, gI_sM, gL_sI, gL_sL, gL_sA, gL_sM, aI_sI, aI_sL, aI_sA, aI_sM, aL_sI, aL_sL, aL_sA, aL_sM]
              unfold Qv_statement
              try dsimp only
              first | exact hq43 | (have hq_ := hq43; (try simp only [frR_i, frR_a, ne_eq, Nat.reduceEqDiff, not_false_eq_true] at hq_); exact hq_)
            · dsimp only [Option.toList, List.cons_append, List.nil_append, Nat.beq, gI_sI, gI_sL, gI_sA, gI_sM, gL_sI, gL_sL, gL_sA, gL_sM, aI_sI, aI_sL, aI_sA, aI_sM, aL_sI, aL_sL, aL_sA, aL_sM]
              unfold Qv_statement
              try dsimp only
              first | exact hq43 | (have hq_ := hq43; (try simp only [frR_i, frR_a, ne_eq, Nat.reduceEqDiff, not_false_eq_true] at hq_); exact hq_)
          refine ⟨fun h44 => ?_, fun h44 => ?_⟩
          · refine hB _ _ _ _ _ (fun m45 hm45 => ?_)
            dsimp only [ugo, uwp, ust, uct, rfd, Bstatement, Nat.beq, lv_args, rlk, rs1, rs2, rdl, rky, rcd, rno, rsw, Value.category, List.filter, List.take, List.drop, List.reverse, List.reverseAux, List.cons_append, List.nil_append, Option.toList, Int.toNat, Int.reduceToNat, if_pos, if_neg, reduceIte, ↓reduceIte, Nat.reduceAdd, Nat.reduceEqDiff, Nat.reduceBEq, beq_self_eq_true, Bool.not_true, Bool.not_false, Bool.and_true, Bool.and_false, Bool.true_and, Bool.false_and, gI_sI, gI_sL, gI_sA, gI_sM, gL_sI, gL_sL, gL_sA, gL_sM, aI_sI, aI_sL, aI_sA, aI_sM, aL_sI, aL_sL, aL_sA, aL_sM, Bstatement_0, Bstatement_14, Bstatement_37, Bstatement_47, Bstatement_51, Bstatement_52, Bstatement_53, Bstatement_63, Bstatement_75, Bstatement_108, Bstatement_115, Bstatement_126, Bstatement_130, Bstatement_131, Bstatement_132, Bstatement_142, Bstatement_147, Bstatement_220, Bstatement_225, Bstatement_230, Bstatement_235, Bstatement_240, Bstatement_245, Bstatement_250, Bstatement_255, Bstatement_260, oi_0, oi_1, oi_123, oi_20, oi_4, oi_41, oi_58, oi_7, Pu_emit, Pu_thing]; try dsimp only
            have hcw : codY s = 61 := (SR.sh hR).wd (x := 11) (by decide) |>.mp ⟨by lia, Int32.toInt_inj.mp h44⟩
            refine ⟨trivial, fun w46 τ46 hq46 => ?_⟩
            have hq46 : StQ τ46 _ w46 := hq46 s n ⟨(by repeat (first | exact hR | refine SR.i ?_ rfl | refine SR.a ?_ rfl)), (by repeat (first | exact hg | refine FgR.i ?_ rfl | refine FgR.a ?_ rfl)), (by (try simp only [frR_i, frR_a, ne_eq, Nat.reduceEqDiff, not_false_eq_true]); exact hne), (by omega)⟩
            have hv46 : w46 = some (.int 0) ∨ w46 = some (.int 1) := hq46.imp (fun q => q.1) (fun q => q.1)
            rcases hv46 with rfl | rfl
            · dsimp only [Option.toList, List.cons_append, List.nil_append, Nat.beq, gI_sI, gI_sL, gI_sA, gI_sM, gL_sI, gL_sL, gL_sA, gL_sM, aI_sI, aI_sL, aI_sA, aI_sM, aL_sI, aL_sL, aL_sA, aL_sM]
              unfold Qv_statement
              try dsimp only
              first | exact hq46 | (have hq_ := hq46; (try simp only [frR_i, frR_a, ne_eq, Nat.reduceEqDiff, not_false_eq_true] at hq_); exact hq_)
            · dsimp only [Option.toList, List.cons_append, List.nil_append, Nat.beq, gI_sI, gI_sL, gI_sA, gI_sM, gL_sI, gL_sL, gL_sA, gL_sM, aI_sI, aI_sL, aI_sA, aI_sM, aL_sI, aL_sL, aL_sA, aL_sM]
              unfold Qv_statement
              try dsimp only
              first | exact hq46 | (have hq_ := hq46; (try simp only [frR_i, frR_a, ne_eq, Nat.reduceEqDiff, not_false_eq_true] at hq_); exact hq_)
          refine ⟨fun h47 => ?_, fun h47 => ?_⟩
          · refine hB _ _ _ _ _ (fun m48 hm48 => ?_)
            dsimp only [ugo, uwp, ust, uct, rfd, Bstatement, Nat.beq, lv_args, rlk, rs1, rs2, rdl, rky, rcd, rno, rsw, Value.category, List.filter, List.take, List.drop, List.reverse, List.reverseAux, List.cons_append, List.nil_append, Option.toList, Int.toNat, Int.reduceToNat, if_pos, if_neg, reduceIte, ↓reduceIte, Nat.reduceAdd, Nat.reduceEqDiff, Nat.reduceBEq, beq_self_eq_true, Bool.not_true, Bool.not_false, Bool.and_true, Bool.and_false, Bool.true_and, Bool.false_and, gI_sI, gI_sL, gI_sA, gI_sM, gL_sI, gL_sL, gL_sA, gL_sM, aI_sI, aI_sL, aI_sA, aI_sM, aL_sI, aL_sL, aL_sA, aL_sM, Bstatement_0, Bstatement_14, Bstatement_37, Bstatement_47, Bstatement_51, Bstatement_52, Bstatement_53, Bstatement_63, Bstatement_75, Bstatement_108, Bstatement_115, Bstatement_126, Bstatement_130, Bstatement_131, Bstatement_132, Bstatement_142, Bstatement_147, Bstatement_220, Bstatement_225, Bstatement_230, Bstatement_235, Bstatement_240, Bstatement_245, Bstatement_250, Bstatement_255, Bstatement_260, oi_0, oi_1, oi_123, oi_20, oi_4, oi_41, oi_58, oi_7, Pu_emit, Pu_thing]; try dsimp only
            have h6n : ¬ (codY s = 80 ∧ cobY s = 6) := fun q => h23 ((SR.sh hR).ki.2.2.1.mpr q.1)
            have hcw : codY s = 62 := (SR.sh hR).wd (x := 12) (by decide) |>.mp ⟨by lia, Int32.toInt_inj.mp h47⟩
            refine ⟨trivial, fun w49 τ49 hq49 => ?_⟩
            have hq49 : StQ τ49 _ w49 := hq49 s n ⟨(by repeat (first | exact hR | refine SR.i ?_ rfl | refine SR.a ?_ rfl)), (by repeat (first | exact hg | refine FgR.i ?_ rfl | refine FgR.a ?_ rfl)), (by (try simp only [frR_i, frR_a, ne_eq, Nat.reduceEqDiff, not_false_eq_true]); exact hne), (by refine ⟨?_, ?_, ?_, ?_, ?_, ?_, ?_, ?_, ?_, ?_, ?_, h6n⟩ <;> omega)⟩
            have hv49 : w49 = some (.int 0) ∨ w49 = some (.int 1) := hq49.imp (fun q => q.1) (fun q => q.1)
            rcases hv49 with rfl | rfl
            · dsimp only [Option.toList, List.cons_append, List.nil_append, Nat.beq, gI_sI, gI_sL, gI_sA, gI_sM, gL_sI, gL_sL, gL_sA, gL_sM, aI_sI, aI_sL, aI_sA, aI_sM, aL_sI, aL_sL, aL_sA, aL_sM]
              unfold Qv_statement
              try dsimp only
              first | exact hq49 | (have hq_ := hq49; (try simp only [frR_i, frR_a, ne_eq, Nat.reduceEqDiff, not_false_eq_true] at hq_); exact hq_)
            · dsimp only [Option.toList, List.cons_append, List.nil_append, Nat.beq, gI_sI, gI_sL, gI_sA, gI_sM, gL_sI, gL_sL, gL_sA, gL_sM, aI_sI, aI_sL, aI_sA, aI_sM, aL_sI, aL_sL, aL_sA, aL_sM]
              unfold Qv_statement
              try dsimp only
              first | exact hq49 | (have hq_ := hq49; (try simp only [frR_i, frR_a, ne_eq, Nat.reduceEqDiff, not_false_eq_true] at hq_); exact hq_)
          refine ⟨fun h50 => ?_, fun h50 => ?_⟩
          · refine hB _ _ _ _ _ (fun m51 hm51 => ?_)
            dsimp only [ugo, uwp, ust, uct, rfd, Bstatement, Nat.beq, lv_args, rlk, rs1, rs2, rdl, rky, rcd, rno, rsw, Value.category, List.filter, List.take, List.drop, List.reverse, List.reverseAux, List.cons_append, List.nil_append, Option.toList, Int.toNat, Int.reduceToNat, if_pos, if_neg, reduceIte, ↓reduceIte, Nat.reduceAdd, Nat.reduceEqDiff, Nat.reduceBEq, beq_self_eq_true, Bool.not_true, Bool.not_false, Bool.and_true, Bool.and_false, Bool.true_and, Bool.false_and, gI_sI, gI_sL, gI_sA, gI_sM, gL_sI, gL_sL, gL_sA, gL_sM, aI_sI, aI_sL, aI_sA, aI_sM, aL_sI, aL_sL, aL_sA, aL_sM, Bstatement_0, Bstatement_14, Bstatement_37, Bstatement_47, Bstatement_51, Bstatement_52, Bstatement_53, Bstatement_63, Bstatement_75, Bstatement_108, Bstatement_115, Bstatement_126, Bstatement_130, Bstatement_131, Bstatement_132, Bstatement_142, Bstatement_147, Bstatement_220, Bstatement_225, Bstatement_230, Bstatement_235, Bstatement_240, Bstatement_245, Bstatement_250, Bstatement_255, Bstatement_260, oi_0, oi_1, oi_123, oi_20, oi_4, oi_41, oi_58, oi_7, Pu_emit, Pu_thing]; try dsimp only
            have h6n : ¬ (codY s = 80 ∧ cobY s = 6) := fun q => h23 ((SR.sh hR).ki.2.2.1.mpr q.1)
            have hcw : codY s = 63 := (SR.sh hR).wd (x := 13) (by decide) |>.mp ⟨by lia, Int32.toInt_inj.mp h50⟩
            refine ⟨trivial, fun w52 τ52 hq52 => ?_⟩
            have hq52 : StQ τ52 _ w52 := hq52 s n ⟨(by repeat (first | exact hR | refine SR.i ?_ rfl | refine SR.a ?_ rfl)), (by repeat (first | exact hg | refine FgR.i ?_ rfl | refine FgR.a ?_ rfl)), (by (try simp only [frR_i, frR_a, ne_eq, Nat.reduceEqDiff, not_false_eq_true]); exact hne), (by refine ⟨?_, ?_, ?_, ?_, ?_, ?_, ?_, ?_, ?_, ?_, ?_, h6n⟩ <;> omega)⟩
            have hv52 : w52 = some (.int 0) ∨ w52 = some (.int 1) := hq52.imp (fun q => q.1) (fun q => q.1)
            rcases hv52 with rfl | rfl
            · dsimp only [Option.toList, List.cons_append, List.nil_append, Nat.beq, gI_sI, gI_sL, gI_sA, gI_sM, gL_sI, gL_sL, gL_sA, gL_sM, aI_sI, aI_sL, aI_sA, aI_sM, aL_sI, aL_sL, aL_sA, aL_sM]
              unfold Qv_statement
              try dsimp only
              first | exact hq52 | (have hq_ := hq52; (try simp only [frR_i, frR_a, ne_eq, Nat.reduceEqDiff, not_false_eq_true] at hq_); exact hq_)
            · dsimp only [Option.toList, List.cons_append, List.nil_append, Nat.beq, gI_sI, gI_sL, gI_sA, gI_sM, gL_sI, gL_sL, gL_sA, gL_sM, aI_sI, aI_sL, aI_sA, aI_sM, aL_sI, aL_sL, aL_sA, aL_sM]
              unfold Qv_statement
              try dsimp only
              first | exact hq52 | (have hq_ := hq52; (try simp only [frR_i, frR_a, ne_eq, Nat.reduceEqDiff, not_false_eq_true] at hq_); exact hq_)
          refine ⟨fun h53 => ?_, fun h53 => ?_⟩
          · refine hB _ _ _ _ _ (fun m54 hm54 => ?_)
            dsimp only [ugo, uwp, ust, uct, rfd, Bstatement, Nat.beq, lv_args, rlk, rs1, rs2, rdl, rky, rcd, rno, rsw, Value.category, List.filter, List.take, List.drop, List.reverse, List.reverseAux, List.cons_append, List.nil_append, Option.toList, Int.toNat, Int.reduceToNat, if_pos, if_neg, reduceIte, ↓reduceIte, Nat.reduceAdd, Nat.reduceEqDiff, Nat.reduceBEq, beq_self_eq_true, Bool.not_true, Bool.not_false, Bool.and_true, Bool.and_false, Bool.true_and, Bool.false_and, gI_sI, gI_sL, gI_sA, gI_sM, gL_sI, gL_sL, gL_sA, gL_sM, aI_sI, aI_sL, aI_sA, aI_sM, aL_sI, aL_sL, aL_sA, aL_sM, Bstatement_0, Bstatement_14, Bstatement_37, Bstatement_47, Bstatement_51, Bstatement_52, Bstatement_53, Bstatement_63, Bstatement_75, Bstatement_108, Bstatement_115, Bstatement_126, Bstatement_130, Bstatement_131, Bstatement_132, Bstatement_142, Bstatement_147, Bstatement_220, Bstatement_225, Bstatement_230, Bstatement_235, Bstatement_240, Bstatement_245, Bstatement_250, Bstatement_255, Bstatement_260, oi_0, oi_1, oi_123, oi_20, oi_4, oi_41, oi_58, oi_7, Pu_emit, Pu_thing]; try dsimp only
            have hcw : codY s = 64 := (SR.sh hR).wd (x := 14) (by decide) |>.mp ⟨by lia, Int32.toInt_inj.mp h53⟩
            refine ⟨trivial, fun w55 τ55 hq55 => ?_⟩
            have hq55 : StQ τ55 _ w55 := hq55 s n ⟨(by repeat (first | exact hR | refine SR.i ?_ rfl | refine SR.a ?_ rfl)), (by repeat (first | exact hg | refine FgR.i ?_ rfl | refine FgR.a ?_ rfl)), (by (try simp only [frR_i, frR_a, ne_eq, Nat.reduceEqDiff, not_false_eq_true]); exact hne), (by omega)⟩
            have hv55 : w55 = some (.int 0) ∨ w55 = some (.int 1) := hq55.imp (fun q => q.1) (fun q => q.1)
            rcases hv55 with rfl | rfl
            · dsimp only [Option.toList, List.cons_append, List.nil_append, Nat.beq, gI_sI, gI_sL, gI_sA, gI_sM, gL_sI, gL_sL, gL_sA, gL_sM, aI_sI, aI_sL, aI_sA, aI_sM, aL_sI, aL_sL, aL_sA, aL_sM]
              unfold Qv_statement
              try dsimp only
              first | exact hq55 | (have hq_ := hq55; (try simp only [frR_i, frR_a, ne_eq, Nat.reduceEqDiff, not_false_eq_true] at hq_); exact hq_)
            · dsimp only [Option.toList, List.cons_append, List.nil_append, Nat.beq, gI_sI, gI_sL, gI_sA, gI_sM, gL_sI, gL_sL, gL_sA, gL_sM, aI_sI, aI_sL, aI_sA, aI_sM, aL_sI, aL_sL, aL_sA, aL_sM]
              unfold Qv_statement
              try dsimp only
              first | exact hq55 | (have hq_ := hq55; (try simp only [frR_i, frR_a, ne_eq, Nat.reduceEqDiff, not_false_eq_true] at hq_); exact hq_)
          refine ⟨fun h56 => ?_, fun h56 => ?_⟩
          · refine hB _ _ _ _ _ (fun m57 hm57 => ?_)
            dsimp only [ugo, uwp, ust, uct, rfd, Bstatement, Nat.beq, lv_args, rlk, rs1, rs2, rdl, rky, rcd, rno, rsw, Value.category, List.filter, List.take, List.drop, List.reverse, List.reverseAux, List.cons_append, List.nil_append, Option.toList, Int.toNat, Int.reduceToNat, if_pos, if_neg, reduceIte, ↓reduceIte, Nat.reduceAdd, Nat.reduceEqDiff, Nat.reduceBEq, beq_self_eq_true, Bool.not_true, Bool.not_false, Bool.and_true, Bool.and_false, Bool.true_and, Bool.false_and, gI_sI, gI_sL, gI_sA, gI_sM, gL_sI, gL_sL, gL_sA, gL_sM, aI_sI, aI_sL, aI_sA, aI_sM, aL_sI, aL_sL, aL_sA, aL_sM, Bstatement_0, Bstatement_14, Bstatement_37, Bstatement_47, Bstatement_51, Bstatement_52, Bstatement_53, Bstatement_63, Bstatement_75, Bstatement_108, Bstatement_115, Bstatement_126, Bstatement_130, Bstatement_131, Bstatement_132, Bstatement_142, Bstatement_147, Bstatement_220, Bstatement_225, Bstatement_230, Bstatement_235, Bstatement_240, Bstatement_245, Bstatement_250, Bstatement_255, Bstatement_260, oi_0, oi_1, oi_123, oi_20, oi_4, oi_41, oi_58, oi_7, Pu_emit, Pu_thing]; try dsimp only
            have hcw : codY s = 65 := (SR.sh hR).wd (x := 15) (by decide) |>.mp ⟨by lia, Int32.toInt_inj.mp h56⟩
            refine ⟨trivial, fun w58 τ58 hq58 => ?_⟩
            have hq58 : StQ τ58 _ w58 := hq58 s n ⟨(by repeat (first | exact hR | refine SR.i ?_ rfl | refine SR.a ?_ rfl)), (by repeat (first | exact hg | refine FgR.i ?_ rfl | refine FgR.a ?_ rfl)), (by (try simp only [frR_i, frR_a, ne_eq, Nat.reduceEqDiff, not_false_eq_true]); exact hne), (by omega)⟩
            have hv58 : w58 = some (.int 0) ∨ w58 = some (.int 1) := hq58.imp (fun q => q.1) (fun q => q.1)
            rcases hv58 with rfl | rfl
            · dsimp only [Option.toList, List.cons_append, List.nil_append, Nat.beq, gI_sI, gI_sL, gI_sA, gI_sM, gL_sI, gL_sL, gL_sA, gL_sM, aI_sI, aI_sL, aI_sA, aI_sM, aL_sI, aL_sL, aL_sA, aL_sM]
              unfold Qv_statement
              try dsimp only
              first | exact hq58 | (have hq_ := hq58; (try simp only [frR_i, frR_a, ne_eq, Nat.reduceEqDiff, not_false_eq_true] at hq_); exact hq_)
            · dsimp only [Option.toList, List.cons_append, List.nil_append, Nat.beq, gI_sI, gI_sL, gI_sA, gI_sM, gL_sI, gL_sL, gL_sA, gL_sM, aI_sI, aI_sL, aI_sA, aI_sM, aL_sI, aL_sL, aL_sA, aL_sM]
              unfold Qv_statement
              try dsimp only
              first | exact hq58 | (have hq_ := hq58; (try simp only [frR_i, frR_a, ne_eq, Nat.reduceEqDiff, not_false_eq_true] at hq_); exact hq_)
          refine ⟨fun h59 => ?_, fun h59 => ?_⟩
          · refine hB _ _ _ _ _ (fun m60 hm60 => ?_)
            dsimp only [ugo, uwp, ust, uct, rfd, Bstatement, Nat.beq, lv_args, rlk, rs1, rs2, rdl, rky, rcd, rno, rsw, Value.category, List.filter, List.take, List.drop, List.reverse, List.reverseAux, List.cons_append, List.nil_append, Option.toList, Int.toNat, Int.reduceToNat, if_pos, if_neg, reduceIte, ↓reduceIte, Nat.reduceAdd, Nat.reduceEqDiff, Nat.reduceBEq, beq_self_eq_true, Bool.not_true, Bool.not_false, Bool.and_true, Bool.and_false, Bool.true_and, Bool.false_and, gI_sI, gI_sL, gI_sA, gI_sM, gL_sI, gL_sL, gL_sA, gL_sM, aI_sI, aI_sL, aI_sA, aI_sM, aL_sI, aL_sL, aL_sA, aL_sM, Bstatement_0, Bstatement_14, Bstatement_37, Bstatement_47, Bstatement_51, Bstatement_52, Bstatement_53, Bstatement_63, Bstatement_75, Bstatement_108, Bstatement_115, Bstatement_126, Bstatement_130, Bstatement_131, Bstatement_132, Bstatement_142, Bstatement_147, Bstatement_220, Bstatement_225, Bstatement_230, Bstatement_235, Bstatement_240, Bstatement_245, Bstatement_250, Bstatement_255, Bstatement_260, oi_0, oi_1, oi_123, oi_20, oi_4, oi_41, oi_58, oi_7, Pu_emit, Pu_thing]; try dsimp only
            have hcw : codY s = 66 := (SR.sh hR).wd (x := 16) (by decide) |>.mp ⟨by lia, Int32.toInt_inj.mp h59⟩
            refine ⟨trivial, fun w61 τ61 hq61 => ?_⟩
            have hq61 : StQ τ61 _ w61 := hq61 s n ⟨(by repeat (first | exact hR | refine SR.i ?_ rfl | refine SR.a ?_ rfl)), (by repeat (first | exact hg | refine FgR.i ?_ rfl | refine FgR.a ?_ rfl)), (by (try simp only [frR_i, frR_a, ne_eq, Nat.reduceEqDiff, not_false_eq_true]); exact hne), (by omega)⟩
            have hv61 : w61 = some (.int 0) ∨ w61 = some (.int 1) := hq61.imp (fun q => q.1) (fun q => q.1)
            rcases hv61 with rfl | rfl
            · dsimp only [Option.toList, List.cons_append, List.nil_append, Nat.beq, gI_sI, gI_sL, gI_sA, gI_sM, gL_sI, gL_sL, gL_sA, gL_sM, aI_sI, aI_sL, aI_sA, aI_sM, aL_sI, aL_sL, aL_sA, aL_sM]
              unfold Qv_statement
              try dsimp only
              first | exact hq61 | (have hq_ := hq61; (try simp only [frR_i, frR_a, ne_eq, Nat.reduceEqDiff, not_false_eq_true] at hq_); exact hq_)
            · dsimp only [Option.toList, List.cons_append, List.nil_append, Nat.beq, gI_sI, gI_sL, gI_sA, gI_sM, gL_sI, gL_sL, gL_sA, gL_sM, aI_sI, aI_sL, aI_sA, aI_sM, aL_sI, aL_sL, aL_sA, aL_sM]
              unfold Qv_statement
              try dsimp only
              first | exact hq61 | (have hq_ := hq61; (try simp only [frR_i, frR_a, ne_eq, Nat.reduceEqDiff, not_false_eq_true] at hq_); exact hq_)
          refine ⟨fun h62 => ?_, fun h62 => ?_⟩
          · refine hB _ _ _ _ _ (fun m63 hm63 => ?_)
            dsimp only [ugo, uwp, ust, uct, rfd, Bstatement, Nat.beq, lv_args, rlk, rs1, rs2, rdl, rky, rcd, rno, rsw, Value.category, List.filter, List.take, List.drop, List.reverse, List.reverseAux, List.cons_append, List.nil_append, Option.toList, Int.toNat, Int.reduceToNat, if_pos, if_neg, reduceIte, ↓reduceIte, Nat.reduceAdd, Nat.reduceEqDiff, Nat.reduceBEq, beq_self_eq_true, Bool.not_true, Bool.not_false, Bool.and_true, Bool.and_false, Bool.true_and, Bool.false_and, gI_sI, gI_sL, gI_sA, gI_sM, gL_sI, gL_sL, gL_sA, gL_sM, aI_sI, aI_sL, aI_sA, aI_sM, aL_sI, aL_sL, aL_sA, aL_sM, Bstatement_0, Bstatement_14, Bstatement_37, Bstatement_47, Bstatement_51, Bstatement_52, Bstatement_53, Bstatement_63, Bstatement_75, Bstatement_108, Bstatement_115, Bstatement_126, Bstatement_130, Bstatement_131, Bstatement_132, Bstatement_142, Bstatement_147, Bstatement_220, Bstatement_225, Bstatement_230, Bstatement_235, Bstatement_240, Bstatement_245, Bstatement_250, Bstatement_255, Bstatement_260, oi_0, oi_1, oi_123, oi_20, oi_4, oi_41, oi_58, oi_7, Pu_emit, Pu_thing]; try dsimp only
            have hcw : codY s = 67 := (SR.sh hR).wd (x := 17) (by decide) |>.mp ⟨by lia, Int32.toInt_inj.mp h62⟩
            refine ⟨trivial, fun w64 τ64 hq64 => ?_⟩
            have hq64 : StQ τ64 _ w64 := hq64 s n ⟨(by repeat (first | exact hR | refine SR.i ?_ rfl | refine SR.a ?_ rfl)), (by repeat (first | exact hg | refine FgR.i ?_ rfl | refine FgR.a ?_ rfl)), (by (try simp only [frR_i, frR_a, ne_eq, Nat.reduceEqDiff, not_false_eq_true]); exact hne), (by omega)⟩
            have hv64 : w64 = some (.int 0) ∨ w64 = some (.int 1) := hq64.imp (fun q => q.1) (fun q => q.1)
            rcases hv64 with rfl | rfl
            · dsimp only [Option.toList, List.cons_append, List.nil_append, Nat.beq, gI_sI, gI_sL, gI_sA, gI_sM, gL_sI, gL_sL, gL_sA, gL_sM, aI_sI, aI_sL, aI_sA, aI_sM, aL_sI, aL_sL, aL_sA, aL_sM]
              unfold Qv_statement
              try dsimp only
              first | exact hq64 | (have hq_ := hq64; (try simp only [frR_i, frR_a, ne_eq, Nat.reduceEqDiff, not_false_eq_true] at hq_); exact hq_)
            · dsimp only [Option.toList, List.cons_append, List.nil_append, Nat.beq, gI_sI, gI_sL, gI_sA, gI_sM, gL_sI, gL_sL, gL_sA, gL_sM, aI_sI, aI_sL, aI_sA, aI_sM, aL_sI, aL_sL, aL_sA, aL_sM]
              unfold Qv_statement
              try dsimp only
              first | exact hq64 | (have hq_ := hq64; (try simp only [frR_i, frR_a, ne_eq, Nat.reduceEqDiff, not_false_eq_true] at hq_); exact hq_)
          refine ⟨fun h65 => ?_, fun h65 => ?_⟩
          · refine hB _ _ _ _ _ (fun m66 hm66 => ?_)
            dsimp only [ugo, uwp, ust, uct, rfd, Bstatement, Nat.beq, lv_args, rlk, rs1, rs2, rdl, rky, rcd, rno, rsw, Value.category, List.filter, List.take, List.drop, List.reverse, List.reverseAux, List.cons_append, List.nil_append, Option.toList, Int.toNat, Int.reduceToNat, if_pos, if_neg, reduceIte, ↓reduceIte, Nat.reduceAdd, Nat.reduceEqDiff, Nat.reduceBEq, beq_self_eq_true, Bool.not_true, Bool.not_false, Bool.and_true, Bool.and_false, Bool.true_and, Bool.false_and, gI_sI, gI_sL, gI_sA, gI_sM, gL_sI, gL_sL, gL_sA, gL_sM, aI_sI, aI_sL, aI_sA, aI_sM, aL_sI, aL_sL, aL_sA, aL_sM, Bstatement_0, Bstatement_14, Bstatement_37, Bstatement_47, Bstatement_51, Bstatement_52, Bstatement_53, Bstatement_63, Bstatement_75, Bstatement_108, Bstatement_115, Bstatement_126, Bstatement_130, Bstatement_131, Bstatement_132, Bstatement_142, Bstatement_147, Bstatement_220, Bstatement_225, Bstatement_230, Bstatement_235, Bstatement_240, Bstatement_245, Bstatement_250, Bstatement_255, Bstatement_260, oi_0, oi_1, oi_123, oi_20, oi_4, oi_41, oi_58, oi_7, Pu_emit, Pu_thing]; try dsimp only
            have hcw : codY s = 68 := (SR.sh hR).wd (x := 18) (by decide) |>.mp ⟨by lia, Int32.toInt_inj.mp h65⟩
            refine ⟨trivial, fun w67 τ67 hq67 => ?_⟩
            have hq67 : StQ τ67 _ w67 := hq67 s n ⟨(by repeat (first | exact hR | refine SR.i ?_ rfl | refine SR.a ?_ rfl)), (by repeat (first | exact hg | refine FgR.i ?_ rfl | refine FgR.a ?_ rfl)), (by (try simp only [frR_i, frR_a, ne_eq, Nat.reduceEqDiff, not_false_eq_true]); exact hne), (by omega)⟩
            have hv67 : w67 = some (.int 0) ∨ w67 = some (.int 1) := hq67.imp (fun q => q.1) (fun q => q.1)
            rcases hv67 with rfl | rfl
            · dsimp only [Option.toList, List.cons_append, List.nil_append, Nat.beq, gI_sI, gI_sL, gI_sA, gI_sM, gL_sI, gL_sL, gL_sA, gL_sM, aI_sI, aI_sL, aI_sA, aI_sM, aL_sI, aL_sL, aL_sA, aL_sM]
              unfold Qv_statement
              try dsimp only
              first | exact hq67 | (have hq_ := hq67; (try simp only [frR_i, frR_a, ne_eq, Nat.reduceEqDiff, not_false_eq_true] at hq_); exact hq_)
            · dsimp only [Option.toList, List.cons_append, List.nil_append, Nat.beq, gI_sI, gI_sL, gI_sA, gI_sM, gL_sI, gL_sL, gL_sA, gL_sM, aI_sI, aI_sL, aI_sA, aI_sM, aL_sI, aL_sL, aL_sA, aL_sM]
              unfold Qv_statement
              try dsimp only
              first | exact hq67 | (have hq_ := hq67; (try simp only [frR_i, frR_a, ne_eq, Nat.reduceEqDiff, not_false_eq_true] at hq_); exact hq_)
          refine hB _ _ _ _ _ (fun m68 hm68 => ?_)
          dsimp only [ugo, uwp, ust, uct, rfd, Bstatement, Nat.beq, lv_args, rlk, rs1, rs2, rdl, rky, rcd, rno, rsw, Value.category, List.filter, List.take, List.drop, List.reverse, List.reverseAux, List.cons_append, List.nil_append, Option.toList, Int.toNat, Int.reduceToNat, if_pos, if_neg, reduceIte, ↓reduceIte, Nat.reduceAdd, Nat.reduceEqDiff, Nat.reduceBEq, beq_self_eq_true, Bool.not_true, Bool.not_false, Bool.and_true, Bool.and_false, Bool.true_and, Bool.false_and, gI_sI, gI_sL, gI_sA, gI_sM, gL_sI, gL_sL, gL_sA, gL_sM, aI_sI, aI_sL, aI_sA, aI_sM, aL_sI, aL_sL, aL_sA, aL_sM, Bstatement_0, Bstatement_14, Bstatement_37, Bstatement_47, Bstatement_51, Bstatement_52, Bstatement_53, Bstatement_63, Bstatement_75, Bstatement_108, Bstatement_115, Bstatement_126, Bstatement_130, Bstatement_131, Bstatement_132, Bstatement_142, Bstatement_147, Bstatement_220, Bstatement_225, Bstatement_230, Bstatement_235, Bstatement_240, Bstatement_245, Bstatement_250, Bstatement_255, Bstatement_260, oi_0, oi_1, oi_123, oi_20, oi_4, oi_41, oi_58, oi_7, Pu_emit, Pu_thing]; try dsimp only
          have h6n : ¬ (codY s = 80 ∧ cobY s = 6) := fun q => h23 ((SR.sh hR).ki.2.2.1.mpr q.1)
          have hw6_ : ¬ codY s = 56 := fun q => absurd (congrArg Int32.toInt ((SR.sh hR).wd (x := 6) (by decide) |>.mpr q).2) h29
          have hw7_ : ¬ codY s = 57 := fun q => absurd (congrArg Int32.toInt ((SR.sh hR).wd (x := 7) (by decide) |>.mpr q).2) h32
          have hw8_ : ¬ codY s = 58 := fun q => absurd (congrArg Int32.toInt ((SR.sh hR).wd (x := 8) (by decide) |>.mpr q).2) h35
          have hw9_ : ¬ codY s = 60 := fun q => absurd (congrArg Int32.toInt ((SR.sh hR).wd (x := 9) (by decide) |>.mpr q).2) h38
          have hw10_ : ¬ codY s = 59 := fun q => absurd (congrArg Int32.toInt ((SR.sh hR).wd (x := 10) (by decide) |>.mpr q).2) h41
          have hw11_ : ¬ codY s = 61 := fun q => absurd (congrArg Int32.toInt ((SR.sh hR).wd (x := 11) (by decide) |>.mpr q).2) h44
          have hw12_ : ¬ codY s = 62 := fun q => absurd (congrArg Int32.toInt ((SR.sh hR).wd (x := 12) (by decide) |>.mpr q).2) h47
          have hw13_ : ¬ codY s = 63 := fun q => absurd (congrArg Int32.toInt ((SR.sh hR).wd (x := 13) (by decide) |>.mpr q).2) h50
          have hw14_ : ¬ codY s = 64 := fun q => absurd (congrArg Int32.toInt ((SR.sh hR).wd (x := 14) (by decide) |>.mpr q).2) h53
          have hw15_ : ¬ codY s = 65 := fun q => absurd (congrArg Int32.toInt ((SR.sh hR).wd (x := 15) (by decide) |>.mpr q).2) h56
          have hw16_ : ¬ codY s = 66 := fun q => absurd (congrArg Int32.toInt ((SR.sh hR).wd (x := 16) (by decide) |>.mpr q).2) h59
          have hw17_ : ¬ codY s = 67 := fun q => absurd (congrArg Int32.toInt ((SR.sh hR).wd (x := 17) (by decide) |>.mpr q).2) h62
          have hw18_ : ¬ codY s = 68 := fun q => absurd (congrArg Int32.toInt ((SR.sh hR).wd (x := 18) (by decide) |>.mpr q).2) h65
          have hw4 : 50 ≤ codY s := by have := (SR.sh hR).ki.2.2.2.2.2.1.mp (by lia); omega
          refine ⟨trivial, fun w69 τ69 hq69 => ?_⟩
          have hq69 : StQ τ69 _ w69 := hq69 s n ⟨(by repeat (first | exact hR | refine SR.i ?_ rfl | refine SR.a ?_ rfl)), (by repeat (first | exact hg | refine FgR.i ?_ rfl | refine FgR.a ?_ rfl)), (by (try simp only [frR_i, frR_a, ne_eq, Nat.reduceEqDiff, not_false_eq_true]); exact hne), (by refine ⟨?_, ?_, ?_, ?_, ?_, ?_, ?_, ?_, ?_, ?_, ?_, h6n⟩ <;> omega)⟩
          have hv69 : w69 = some (.int 0) ∨ w69 = some (.int 1) := hq69.imp (fun q => q.1) (fun q => q.1)
          rcases hv69 with rfl | rfl
          · dsimp only [Option.toList, List.cons_append, List.nil_append, Nat.beq, gI_sI, gI_sL, gI_sA, gI_sM, gL_sI, gL_sL, gL_sA, gL_sM, aI_sI, aI_sL, aI_sA, aI_sM, aL_sI, aL_sL, aL_sA, aL_sM]
            unfold Qv_statement
            try dsimp only
            first | exact hq69 | (have hq_ := hq69; (try simp only [frR_i, frR_a, ne_eq, Nat.reduceEqDiff, not_false_eq_true] at hq_); exact hq_)
          · dsimp only [Option.toList, List.cons_append, List.nil_append, Nat.beq, gI_sI, gI_sL, gI_sA, gI_sM, gL_sI, gL_sL, gL_sA, gL_sM, aI_sI, aI_sL, aI_sA, aI_sM, aL_sI, aL_sL, aL_sA, aL_sM]
            unfold Qv_statement
            try dsimp only
            first | exact hq69 | (have hq_ := hq69; (try simp only [frR_i, frR_a, ne_eq, Nat.reduceEqDiff, not_false_eq_true] at hq_); exact hq_)
        · refine hB _ _ _ _ _ (fun m70 hm70 => ?_)
          dsimp only [ugo, uwp, ust, uct, rfd, Bstatement, Nat.beq, lv_args, rlk, rs1, rs2, rdl, rky, rcd, rno, rsw, Value.category, List.filter, List.take, List.drop, List.reverse, List.reverseAux, List.cons_append, List.nil_append, Option.toList, Int.toNat, Int.reduceToNat, if_pos, if_neg, reduceIte, ↓reduceIte, Nat.reduceAdd, Nat.reduceEqDiff, Nat.reduceBEq, beq_self_eq_true, Bool.not_true, Bool.not_false, Bool.and_true, Bool.and_false, Bool.true_and, Bool.false_and, gI_sI, gI_sL, gI_sA, gI_sM, gL_sI, gL_sL, gL_sA, gL_sM, aI_sI, aI_sL, aI_sA, aI_sM, aL_sI, aL_sL, aL_sA, aL_sM, Bstatement_0, Bstatement_14, Bstatement_37, Bstatement_47, Bstatement_51, Bstatement_52, Bstatement_53, Bstatement_63, Bstatement_75, Bstatement_108, Bstatement_115, Bstatement_126, Bstatement_130, Bstatement_131, Bstatement_132, Bstatement_142, Bstatement_147, Bstatement_220, Bstatement_225, Bstatement_230, Bstatement_235, Bstatement_240, Bstatement_245, Bstatement_250, Bstatement_255, Bstatement_260, oi_0, oi_1, oi_123, oi_20, oi_4, oi_41, oi_58, oi_7, Pu_emit, Pu_thing]; try dsimp only
          have h6n : ¬ (codY s = 80 ∧ cobY s = 6) := fun q => h23 ((SR.sh hR).ki.2.2.1.mpr q.1)
          have hw4 : ¬ (50 ≤ codY s ∧ codY s ≤ 73) := fun q => h26 ((SR.sh hR).ki.2.2.2.2.2.1.mpr q)
          refine ⟨trivial, fun w71 τ71 hq71 => ?_⟩
          have hq71 : StQ τ71 _ w71 := hq71 s n ⟨(by repeat (first | exact hR | refine SR.i ?_ rfl | refine SR.a ?_ rfl)), (by repeat (first | exact hg | refine FgR.i ?_ rfl | refine FgR.a ?_ rfl)), (by (try simp only [frR_i, frR_a, ne_eq, Nat.reduceEqDiff, not_false_eq_true]); exact hne), (by refine ⟨?_, ?_, ?_, ?_, ?_, ?_, ?_, ?_, ?_, ?_, ?_, h6n⟩ <;> omega)⟩
          have hv71 : w71 = some (.int 0) ∨ w71 = some (.int 1) := hq71.imp (fun q => q.1) (fun q => q.1)
          rcases hv71 with rfl | rfl
          · dsimp only [Option.toList, List.cons_append, List.nil_append, Nat.beq, gI_sI, gI_sL, gI_sA, gI_sM, gL_sI, gL_sL, gL_sA, gL_sM, aI_sI, aI_sL, aI_sA, aI_sM, aL_sI, aL_sL, aL_sA, aL_sM]
            unfold Qv_statement
            try dsimp only
            first | exact hq71 | (have hq_ := hq71; (try simp only [frR_i, frR_a, ne_eq, Nat.reduceEqDiff, not_false_eq_true] at hq_); exact hq_)
          · dsimp only [Option.toList, List.cons_append, List.nil_append, Nat.beq, gI_sI, gI_sL, gI_sA, gI_sM, gL_sI, gL_sL, gL_sA, gL_sM, aI_sI, aI_sL, aI_sA, aI_sM, aL_sI, aL_sL, aL_sA, aL_sM]
            unfold Qv_statement
            try dsimp only
            first | exact hq71 | (have hq_ := hq71; (try simp only [frR_i, frR_a, ne_eq, Nat.reduceEqDiff, not_false_eq_true] at hq_); exact hq_)
      · refine hB _ _ _ _ _ (fun m72 hm72 => ?_)
        dsimp only [ugo, uwp, ust, uct, rfd, Bstatement, Nat.beq, lv_args, rlk, rs1, rs2, rdl, rky, rcd, rno, rsw, Value.category, List.filter, List.take, List.drop, List.reverse, List.reverseAux, List.cons_append, List.nil_append, Option.toList, Int.toNat, Int.reduceToNat, if_pos, if_neg, reduceIte, ↓reduceIte, Nat.reduceAdd, Nat.reduceEqDiff, Nat.reduceBEq, beq_self_eq_true, Bool.not_true, Bool.not_false, Bool.and_true, Bool.and_false, Bool.true_and, Bool.false_and, gI_sI, gI_sL, gI_sA, gI_sM, gL_sI, gL_sL, gL_sA, gL_sM, aI_sI, aI_sL, aI_sA, aI_sM, aL_sI, aL_sL, aL_sA, aL_sM, Bstatement_0, Bstatement_14, Bstatement_37, Bstatement_47, Bstatement_51, Bstatement_52, Bstatement_53, Bstatement_63, Bstatement_75, Bstatement_108, Bstatement_115, Bstatement_126, Bstatement_130, Bstatement_131, Bstatement_132, Bstatement_142, Bstatement_147, Bstatement_220, Bstatement_225, Bstatement_230, Bstatement_235, Bstatement_240, Bstatement_245, Bstatement_250, Bstatement_255, Bstatement_260, oi_0, oi_1, oi_123, oi_20, oi_4, oi_41, oi_58, oi_7, Pu_emit, Pu_thing]; try dsimp only
        have hc8 : codY s = 80 := (SR.sh hR).ki.2.2.1.mp (by exact h23)
        refine ⟨trivial, fun w73 τ73 hq73 => ?_⟩
        obtain ⟨rfl, hb73⟩ := hq73 trivial
        rcases hb73 with ⟨rfl, hk73⟩ | ⟨rfl, hk73⟩
        · dsimp only [Option.toList, List.cons_append, List.nil_append, Nat.beq, gI_sI, gI_sL, gI_sA, gI_sM, gL_sI, gL_sL, gL_sA, gL_sM, aI_sI, aI_sL, aI_sA, aI_sM, aL_sI, aL_sL, aL_sA, aL_sM]
          refine ⟨fun h74 => absurd h74 (by decide), fun h74 => ?_⟩
          clear h74
          refine hB _ _ _ _ _ (fun m75 hm75 => ?_)
          dsimp only [ugo, uwp, ust, uct, rfd, Bstatement, Nat.beq, lv_args, rlk, rs1, rs2, rdl, rky, rcd, rno, rsw, Value.category, List.filter, List.take, List.drop, List.reverse, List.reverseAux, List.cons_append, List.nil_append, Option.toList, Int.toNat, Int.reduceToNat, if_pos, if_neg, reduceIte, ↓reduceIte, Nat.reduceAdd, Nat.reduceEqDiff, Nat.reduceBEq, beq_self_eq_true, Bool.not_true, Bool.not_false, Bool.and_true, Bool.and_false, Bool.true_and, Bool.false_and, gI_sI, gI_sL, gI_sA, gI_sM, gL_sI, gL_sL, gL_sA, gL_sM, aI_sI, aI_sL, aI_sA, aI_sM, aL_sI, aL_sL, aL_sA, aL_sM, Bstatement_0, Bstatement_14, Bstatement_37, Bstatement_47, Bstatement_51, Bstatement_52, Bstatement_53, Bstatement_63, Bstatement_75, Bstatement_108, Bstatement_115, Bstatement_126, Bstatement_130, Bstatement_131, Bstatement_132, Bstatement_142, Bstatement_147, Bstatement_220, Bstatement_225, Bstatement_230, Bstatement_235, Bstatement_240, Bstatement_245, Bstatement_250, Bstatement_255, Bstatement_260, oi_0, oi_1, oi_123, oi_20, oi_4, oi_41, oi_58, oi_7, Pu_emit, Pu_thing]; try dsimp only
          refine ⟨trivial, fun w76 τ76 hq76 => ?_⟩
          obtain ⟨rfl, hE76⟩ := hq76
          have hR76 := SR.em (e_ := 0) (s := s) (n := n) (by repeat (first | exact hR | refine SR.i ?_ rfl | refine SR.a ?_ rfl)) hE76
          have hg76 := FgR.em (e_ := 0) (by repeat (first | exact hg | refine FgR.i ?_ rfl | refine FgR.a ?_ rfl)) (s := s) (n := n) (by repeat (first | exact hR | refine SR.i ?_ rfl | refine SR.a ?_ rfl)) hE76
          have hf76 := frR_em hE76
          dsimp only [Option.toList, List.cons_append, List.nil_append, Nat.beq, gI_sI, gI_sL, gI_sA, gI_sM, gL_sI, gL_sL, gL_sA, gL_sM, aI_sI, aI_sL, aI_sA, aI_sM, aL_sI, aL_sL, aL_sA, aL_sM]
          have k6_76 : 0 < gI τ76 36 := by rw [hE76.1 36 (by decide)]; exact hm6
          refine ⟨trivial, fun w77 τ77 hq77 => ?_⟩
          obtain ⟨rfl, hT77⟩ := hq77
          have hR77 := SR.th (e_ := 0) (s := s) (n := n) (by repeat (first | exact hR76 | refine SR.i ?_ rfl | refine SR.a ?_ rfl)) hT77
          have hg77 := FgR.th (e_ := 0) (by repeat (first | exact hg76 | refine FgR.i ?_ rfl | refine FgR.a ?_ rfl)) (s := s) (n := n) (by repeat (first | exact hR76 | refine SR.i ?_ rfl | refine SR.a ?_ rfl)) hT77
          have hf77 := frR_th hT77
          have hk77 := th49 hT77
          dsimp only [Option.toList, List.cons_append, List.nil_append, Nat.beq, gI_sI, gI_sL, gI_sA, gI_sM, gL_sI, gL_sL, gL_sA, gL_sM, aI_sI, aI_sL, aI_sA, aI_sM, aL_sI, aL_sL, aL_sA, aL_sM]
          have k6_77 : 0 < gI τ77 36 := by rw [hT77.1 36 (by decide)]; exact k6_76
          have k9_77 : nT (gI τ76 49) < nT (gI τ77 49) := kthx hk77
          refine ⟨trivial, fun w78 τ78 hq78 => ?_⟩
          obtain ⟨rfl, hE78⟩ := hq78
          have hR78 := SR.em (e_ := 0) (s := s) (n := n) (by repeat (first | exact hR77 | refine SR.i ?_ rfl | refine SR.a ?_ rfl)) hE78
          have hg78 := FgR.em (e_ := 0) (by repeat (first | exact hg77 | refine FgR.i ?_ rfl | refine FgR.a ?_ rfl)) (s := s) (n := n) (by repeat (first | exact hR77 | refine SR.i ?_ rfl | refine SR.a ?_ rfl)) hE78
          have hf78 := frR_em hE78
          dsimp only [Option.toList, List.cons_append, List.nil_append, Nat.beq, gI_sI, gI_sL, gI_sA, gI_sM, gL_sI, gL_sL, gL_sA, gL_sM, aI_sI, aI_sL, aI_sA, aI_sM, aL_sI, aL_sL, aL_sA, aL_sM]
          have k6_78 : 0 < gI τ78 36 := by rw [hE78.1 36 (by decide)]; exact k6_77
          have k9_78 : nT (gI τ76 49) < nT (gI τ78 49) := by rw [hE78.1 49 (by decide)]; exact k9_77
          refine ⟨trivial, fun w79 τ79 hq79 => ?_⟩
          have hq79 := hq79 _ s n ⟨(SR.x (e_ := 0) (by repeat (first | exact hR78 | refine SR.i ?_ rfl | refine SR.a ?_ rfl))), by omega, by omega⟩
          rcases hq79 with ⟨rfl, hF79⟩ | ⟨rfl, hX79, hz79, hS79⟩
          · dsimp only [Option.toList, List.cons_append, List.nil_append, Nat.beq, gI_sI, gI_sL, gI_sA, gI_sM, gL_sI, gL_sL, gL_sA, gL_sM, aI_sI, aI_sL, aI_sA, aI_sM, aL_sI, aL_sL, aL_sA, aL_sM]
            refine ⟨fun h80 => ?_, fun h80 => absurd h80 (by decide)⟩
            clear h80
            refine hB _ _ _ _ _ (fun m81 hm81 => ?_)
            dsimp only [ugo, uwp, ust, uct, rfd, Bstatement, Nat.beq, lv_args, rlk, rs1, rs2, rdl, rky, rcd, rno, rsw, Value.category, List.filter, List.take, List.drop, List.reverse, List.reverseAux, List.cons_append, List.nil_append, Option.toList, Int.toNat, Int.reduceToNat, if_pos, if_neg, reduceIte, ↓reduceIte, Nat.reduceAdd, Nat.reduceEqDiff, Nat.reduceBEq, beq_self_eq_true, Bool.not_true, Bool.not_false, Bool.and_true, Bool.and_false, Bool.true_and, Bool.false_and, gI_sI, gI_sL, gI_sA, gI_sM, gL_sI, gL_sL, gL_sA, gL_sM, aI_sI, aI_sL, aI_sA, aI_sM, aL_sI, aL_sL, aL_sA, aL_sM, Bstatement_0, Bstatement_14, Bstatement_37, Bstatement_47, Bstatement_51, Bstatement_52, Bstatement_53, Bstatement_63, Bstatement_75, Bstatement_108, Bstatement_115, Bstatement_126, Bstatement_130, Bstatement_131, Bstatement_132, Bstatement_142, Bstatement_147, Bstatement_220, Bstatement_225, Bstatement_230, Bstatement_235, Bstatement_240, Bstatement_245, Bstatement_250, Bstatement_255, Bstatement_260, oi_0, oi_1, oi_123, oi_20, oi_4, oi_41, oi_58, oi_7, Pu_emit, Pu_thing]; try dsimp only
            refine hB _ _ _ _ _ (fun m82 hm82 => ?_)
            dsimp only [ugo, uwp, ust, uct, rfd, Bstatement, Nat.beq, lv_args, rlk, rs1, rs2, rdl, rky, rcd, rno, rsw, Value.category, List.filter, List.take, List.drop, List.reverse, List.reverseAux, List.cons_append, List.nil_append, Option.toList, Int.toNat, Int.reduceToNat, if_pos, if_neg, reduceIte, ↓reduceIte, Nat.reduceAdd, Nat.reduceEqDiff, Nat.reduceBEq, beq_self_eq_true, Bool.not_true, Bool.not_false, Bool.and_true, Bool.and_false, Bool.true_and, Bool.false_and, gI_sI, gI_sL, gI_sA, gI_sM, gL_sI, gL_sL, gL_sA, gL_sM, aI_sI, aI_sL, aI_sA, aI_sM, aL_sI, aL_sL, aL_sA, aL_sM, Bstatement_0, Bstatement_14, Bstatement_37, Bstatement_47, Bstatement_51, Bstatement_52, Bstatement_53, Bstatement_63, Bstatement_75, Bstatement_108, Bstatement_115, Bstatement_126, Bstatement_130, Bstatement_131, Bstatement_132, Bstatement_142, Bstatement_147, Bstatement_220, Bstatement_225, Bstatement_230, Bstatement_235, Bstatement_240, Bstatement_245, Bstatement_250, Bstatement_255, Bstatement_260, oi_0, oi_1, oi_123, oi_20, oi_4, oi_41, oi_58, oi_7, Pu_emit, Pu_thing]; try dsimp only
            unfold Qv_statement
            try dsimp only
            refine StQ.f hF79 ?_
            exact (st_nf hnn.2.1 hc8 (SR.z hR) hF79.1).tr (gd_sf _ _ _)
          · dsimp only [Option.toList, List.cons_append, List.nil_append, Nat.beq, gI_sI, gI_sL, gI_sA, gI_sM, gL_sI, gL_sL, gL_sA, gL_sM, aI_sI, aI_sL, aI_sA, aI_sM, aL_sI, aL_sL, aL_sA, aL_sM]
            have hR79 := SR.kr (e_ := 0) (by repeat (first | exact hR78 | refine SR.i ?_ rfl | refine SR.a ?_ rfl)) hX79 acc2
            have hg79 := FgR.kr (e_ := 0) (s := s) (n := n) (by repeat (first | exact hg78 | refine FgR.i ?_ rfl | refine FgR.a ?_ rfl)) (by repeat (first | exact hR78 | refine SR.i ?_ rfl | refine SR.a ?_ rfl)) hX79
            have hf79 := frR_kr hX79
            have k6_79 : 0 < gI τ79 36 := by rw [hX79.2.2.1.1 36 rfl]; exact k6_78
            have k9_79 : nT (gI τ76 49) < nT (gI τ79 49) := by rw [hX79.2.2.1.1 49 rfl]; exact k9_78
            refine ⟨fun h83 => absurd h83 (by decide), fun h83 => ?_⟩
            clear h83
            refine hB _ _ _ _ _ (fun m84 hm84 => ?_)
            dsimp only [ugo, uwp, ust, uct, rfd, Bstatement, Nat.beq, lv_args, rlk, rs1, rs2, rdl, rky, rcd, rno, rsw, Value.category, List.filter, List.take, List.drop, List.reverse, List.reverseAux, List.cons_append, List.nil_append, Option.toList, Int.toNat, Int.reduceToNat, if_pos, if_neg, reduceIte, ↓reduceIte, Nat.reduceAdd, Nat.reduceEqDiff, Nat.reduceBEq, beq_self_eq_true, Bool.not_true, Bool.not_false, Bool.and_true, Bool.and_false, Bool.true_and, Bool.false_and, gI_sI, gI_sL, gI_sA, gI_sM, gL_sI, gL_sL, gL_sA, gL_sM, aI_sI, aI_sL, aI_sA, aI_sM, aL_sI, aL_sL, aL_sA, aL_sM, Bstatement_0, Bstatement_14, Bstatement_37, Bstatement_47, Bstatement_51, Bstatement_52, Bstatement_53, Bstatement_63, Bstatement_75, Bstatement_108, Bstatement_115, Bstatement_126, Bstatement_130, Bstatement_131, Bstatement_132, Bstatement_142, Bstatement_147, Bstatement_220, Bstatement_225, Bstatement_230, Bstatement_235, Bstatement_240, Bstatement_245, Bstatement_250, Bstatement_255, Bstatement_260, oi_0, oi_1, oi_123, oi_20, oi_4, oi_41, oi_58, oi_7, Pu_emit, Pu_thing]; try dsimp only
            have hz_ : zAt s < 500 := hz79
            have hnx := (SR.sh hR).nx hc8 hz_
            have hc6 : cobY s = 6 := (tk_sg (a := 58) (d := 6) hnx.2 (by decide)).mp ⟨by rw [hk73.2.2.1]; rfl, by rw [hk73.2.2.2]; rfl⟩
            have hc6a : codY (accY s) = 6 := by rw [← cob_acc (SR.z hR) hz_]; exact hc6
            refine ⟨trivial, fun w85 τ85 hq85 => ?_⟩
            have hq85 := hq85 _ (accY s) n ⟨(SR.x (e_ := 0) (by repeat (first | exact hR79 | refine SR.i ?_ rfl | refine SR.a ?_ rfl))), by omega, by omega⟩
            rcases hq85 with ⟨rfl, hF85⟩ | ⟨rfl, hX85, hz85, hS85⟩
            · dsimp only [Option.toList, List.cons_append, List.nil_append, Nat.beq, gI_sI, gI_sL, gI_sA, gI_sM, gL_sI, gL_sL, gL_sA, gL_sM, aI_sI, aI_sL, aI_sA, aI_sM, aL_sI, aL_sL, aL_sA, aL_sM]
              refine ⟨fun h86 => ?_, fun h86 => absurd h86 (by decide)⟩
              clear h86
              refine hB _ _ _ _ _ (fun m87 hm87 => ?_)
              dsimp only [ugo, uwp, ust, uct, rfd, Bstatement, Nat.beq, lv_args, rlk, rs1, rs2, rdl, rky, rcd, rno, rsw, Value.category, List.filter, List.take, List.drop, List.reverse, List.reverseAux, List.cons_append, List.nil_append, Option.toList, Int.toNat, Int.reduceToNat, if_pos, if_neg, reduceIte, ↓reduceIte, Nat.reduceAdd, Nat.reduceEqDiff, Nat.reduceBEq, beq_self_eq_true, Bool.not_true, Bool.not_false, Bool.and_true, Bool.and_false, Bool.true_and, Bool.false_and, gI_sI, gI_sL, gI_sA, gI_sM, gL_sI, gL_sL, gL_sA, gL_sM, aI_sI, aI_sL, aI_sA, aI_sM, aL_sI, aL_sL, aL_sA, aL_sM, Bstatement_0, Bstatement_14, Bstatement_37, Bstatement_47, Bstatement_51, Bstatement_52, Bstatement_53, Bstatement_63, Bstatement_75, Bstatement_108, Bstatement_115, Bstatement_126, Bstatement_130, Bstatement_131, Bstatement_132, Bstatement_142, Bstatement_147, Bstatement_220, Bstatement_225, Bstatement_230, Bstatement_235, Bstatement_240, Bstatement_245, Bstatement_250, Bstatement_255, Bstatement_260, oi_0, oi_1, oi_123, oi_20, oi_4, oi_41, oi_58, oi_7, Pu_emit, Pu_thing]; try dsimp only
              refine hB _ _ _ _ _ (fun m88 hm88 => ?_)
              dsimp only [ugo, uwp, ust, uct, rfd, Bstatement, Nat.beq, lv_args, rlk, rs1, rs2, rdl, rky, rcd, rno, rsw, Value.category, List.filter, List.take, List.drop, List.reverse, List.reverseAux, List.cons_append, List.nil_append, Option.toList, Int.toNat, Int.reduceToNat, if_pos, if_neg, reduceIte, ↓reduceIte, Nat.reduceAdd, Nat.reduceEqDiff, Nat.reduceBEq, beq_self_eq_true, Bool.not_true, Bool.not_false, Bool.and_true, Bool.and_false, Bool.true_and, Bool.false_and, gI_sI, gI_sL, gI_sA, gI_sM, gL_sI, gL_sL, gL_sA, gL_sM, aI_sI, aI_sL, aI_sA, aI_sM, aL_sI, aL_sL, aL_sA, aL_sM, Bstatement_0, Bstatement_14, Bstatement_37, Bstatement_47, Bstatement_51, Bstatement_52, Bstatement_53, Bstatement_63, Bstatement_75, Bstatement_108, Bstatement_115, Bstatement_126, Bstatement_130, Bstatement_131, Bstatement_132, Bstatement_142, Bstatement_147, Bstatement_220, Bstatement_225, Bstatement_230, Bstatement_235, Bstatement_240, Bstatement_245, Bstatement_250, Bstatement_255, Bstatement_260, oi_0, oi_1, oi_123, oi_20, oi_4, oi_41, oi_58, oi_7, Pu_emit, Pu_thing]; try dsimp only
              unfold Qv_statement
              try dsimp only
              rw [st_lab' hnn.2.1 hc8 hc6, xp_y hc6a]
              refine StQ.f hF85 ?_
              exact (by repeat (first | with_reducible exact GpY.rf | with_reducible refine GpY.tr ?_ (gd_fo _) | with_reducible refine GpY.tr ?_ (gd_ef _) | with_reducible refine GpY.tr ?_ (gd_cf _) | with_reducible refine GpY.tr ?_ (gd_wt _) | with_reducible refine GpY.tr ?_ (gd_xp _) | with_reducible refine GpY.tr ?_ (gd_acc _) | with_reducible refine GpY.tr ?_ (gd_rai _) | with_reducible refine GpY.tr ?_ (gd_e _) | with_reducible refine GpY.tr ?_ (gd_o _) | with_reducible refine GpY.tr ?_ (gd_c _) | with_reducible refine GpY.tr ?_ (gd_op _) | with_reducible refine GpY.tr ?_ (gd_clp gd_e _ _) | with_reducible refine GpY.tr ?_ (gd_tl _) | with_reducible refine GpY.tr ?_ (gd_sf _ _ _) | with_reducible refine GpY.tr ?_ (gd_cl _) | with_reducible refine GpY.tr ?_ (gd_pc _) | with_reducible refine GpY.tr ?_ (gd_st _) | with_reducible refine GpY.tr ?_ (gd_rw _) | with_reducible refine GpY.tr ?_ (gd_typ _) | with_reducible refine GpY.tr ?_ (gd_dcl _) | with_reducible refine GpY.tr ?_ (gd_va2 _) | with_reducible refine GpY.tr ?_ (gd_cnd _) | with_reducible refine GpY.tr ?_ (gd_tr1 _) | with_reducible refine GpY.tr ?_ (gd_tr2 (fun _ => gd_rw) _) | with_reducible refine GpY.tr ?_ (gd_tr3 (fun _ => gd_rw) _) | with_reducible refine GpY.tr ?_ (gd_fo1 _) | with_reducible refine GpY.tr ?_ (gd_fo2 _) | with_reducible refine GpY.tr ?_ (gd_fo3 _) | with_reducible refine GpY.tr ?_ (gd_fex _) | with_reducible refine GpY.tr ?_ (pg_var.1) | with_reducible refine GpY.tr ?_ (pg_cas.1) | exact GpY.rf))
            · dsimp only [Option.toList, List.cons_append, List.nil_append, Nat.beq, gI_sI, gI_sL, gI_sA, gI_sM, gL_sI, gL_sL, gL_sA, gL_sM, aI_sI, aI_sL, aI_sA, aI_sM, aL_sI, aL_sL, aL_sA, aL_sM]
              have hR85 := SR.kr (e_ := 0) (by repeat (first | exact hR79 | refine SR.i ?_ rfl | refine SR.a ?_ rfl)) hX85 acc2
              have hg85 := FgR.kr (e_ := 0) (s := (accY s)) (n := n) (by repeat (first | exact hg79 | refine FgR.i ?_ rfl | refine FgR.a ?_ rfl)) (by repeat (first | exact hR79 | refine SR.i ?_ rfl | refine SR.a ?_ rfl)) hX85
              have hf85 := frR_kr hX85
              have k6_85 : 0 < gI τ85 36 := by rw [hX85.2.2.1.1 36 rfl]; exact k6_79
              have k9_85 : nT (gI τ76 49) < nT (gI τ85 49) := by rw [hX85.2.2.1.1 49 rfl]; exact k9_79
              refine ⟨fun h89 => absurd h89 (by decide), fun h89 => ?_⟩
              clear h89
              refine hB _ _ _ _ _ (fun m90 hm90 => ?_)
              dsimp only [ugo, uwp, ust, uct, rfd, Bstatement, Nat.beq, lv_args, rlk, rs1, rs2, rdl, rky, rcd, rno, rsw, Value.category, List.filter, List.take, List.drop, List.reverse, List.reverseAux, List.cons_append, List.nil_append, Option.toList, Int.toNat, Int.reduceToNat, if_pos, if_neg, reduceIte, ↓reduceIte, Nat.reduceAdd, Nat.reduceEqDiff, Nat.reduceBEq, beq_self_eq_true, Bool.not_true, Bool.not_false, Bool.and_true, Bool.and_false, Bool.true_and, Bool.false_and, gI_sI, gI_sL, gI_sA, gI_sM, gL_sI, gL_sL, gL_sA, gL_sM, aI_sI, aI_sL, aI_sA, aI_sM, aL_sI, aL_sL, aL_sA, aL_sM, Bstatement_0, Bstatement_14, Bstatement_37, Bstatement_47, Bstatement_51, Bstatement_52, Bstatement_53, Bstatement_63, Bstatement_75, Bstatement_108, Bstatement_115, Bstatement_126, Bstatement_130, Bstatement_131, Bstatement_132, Bstatement_142, Bstatement_147, Bstatement_220, Bstatement_225, Bstatement_230, Bstatement_235, Bstatement_240, Bstatement_245, Bstatement_250, Bstatement_255, Bstatement_260, oi_0, oi_1, oi_123, oi_20, oi_4, oi_41, oi_58, oi_7, Pu_emit, Pu_thing]; try dsimp only
              refine ⟨trivial, fun w91 τ91 hq91 => ?_⟩
              have hq91 := hq91 (accY (accY s)) n ⟨(by repeat (first | exact hR85 | refine SR.i ?_ rfl | refine SR.a ?_ rfl)), (by repeat (first | exact hg85 | refine FgR.i ?_ rfl | refine FgR.a ?_ rfl)), k9_85, by decide, (iff_of_false (by decide) (by (try simp only [frR_i, frR_a, ne_eq, Nat.reduceEqDiff, not_false_eq_true, hf85, hf79, hf78, hf77, hf76]); exact hne)), k6_85, (fun q => absurd q (by decide))⟩
              rcases hq91 with ⟨rfl, hn91, hF91⟩ | ⟨rfl, hn91, hR91, hg91, hf91⟩
              · dsimp only [Option.toList, List.cons_append, List.nil_append, Nat.beq, gI_sI, gI_sL, gI_sA, gI_sM, gL_sI, gL_sL, gL_sA, gL_sM, aI_sI, aI_sL, aI_sA, aI_sM, aL_sI, aL_sL, aL_sA, aL_sM]
                refine ⟨fun h92 => ?_, fun h92 => absurd h92 (by decide)⟩
                clear h92
                refine hB _ _ _ _ _ (fun m93 hm93 => ?_)
                dsimp only [ugo, uwp, ust, uct, rfd, Bstatement, Nat.beq, lv_args, rlk, rs1, rs2, rdl, rky, rcd, rno, rsw, Value.category, List.filter, List.take, List.drop, List.reverse, List.reverseAux, List.cons_append, List.nil_append, Option.toList, Int.toNat, Int.reduceToNat, if_pos, if_neg, reduceIte, ↓reduceIte, Nat.reduceAdd, Nat.reduceEqDiff, Nat.reduceBEq, beq_self_eq_true, Bool.not_true, Bool.not_false, Bool.and_true, Bool.and_false, Bool.true_and, Bool.false_and, gI_sI, gI_sL, gI_sA, gI_sM, gL_sI, gL_sL, gL_sA, gL_sM, aI_sI, aI_sL, aI_sA, aI_sM, aL_sI, aL_sL, aL_sA, aL_sM, Bstatement_0, Bstatement_14, Bstatement_37, Bstatement_47, Bstatement_51, Bstatement_52, Bstatement_53, Bstatement_63, Bstatement_75, Bstatement_108, Bstatement_115, Bstatement_126, Bstatement_130, Bstatement_131, Bstatement_132, Bstatement_142, Bstatement_147, Bstatement_220, Bstatement_225, Bstatement_230, Bstatement_235, Bstatement_240, Bstatement_245, Bstatement_250, Bstatement_255, Bstatement_260, oi_0, oi_1, oi_123, oi_20, oi_4, oi_41, oi_58, oi_7, Pu_emit, Pu_thing]; try dsimp only
                refine hB _ _ _ _ _ (fun m94 hm94 => ?_)
                dsimp only [ugo, uwp, ust, uct, rfd, Bstatement, Nat.beq, lv_args, rlk, rs1, rs2, rdl, rky, rcd, rno, rsw, Value.category, List.filter, List.take, List.drop, List.reverse, List.reverseAux, List.cons_append, List.nil_append, Option.toList, Int.toNat, Int.reduceToNat, if_pos, if_neg, reduceIte, ↓reduceIte, Nat.reduceAdd, Nat.reduceEqDiff, Nat.reduceBEq, beq_self_eq_true, Bool.not_true, Bool.not_false, Bool.and_true, Bool.and_false, Bool.true_and, Bool.false_and, gI_sI, gI_sL, gI_sA, gI_sM, gL_sI, gL_sL, gL_sA, gL_sM, aI_sI, aI_sL, aI_sA, aI_sM, aL_sI, aL_sL, aL_sA, aL_sM, Bstatement_0, Bstatement_14, Bstatement_37, Bstatement_47, Bstatement_51, Bstatement_52, Bstatement_53, Bstatement_63, Bstatement_75, Bstatement_108, Bstatement_115, Bstatement_126, Bstatement_130, Bstatement_131, Bstatement_132, Bstatement_142, Bstatement_147, Bstatement_220, Bstatement_225, Bstatement_230, Bstatement_235, Bstatement_240, Bstatement_245, Bstatement_250, Bstatement_255, Bstatement_260, oi_0, oi_1, oi_123, oi_20, oi_4, oi_41, oi_58, oi_7, Pu_emit, Pu_thing]; try dsimp only
                unfold Qv_statement
                try dsimp only
                rw [st_lab' hnn.2.1 hc8 hc6, xp_y hc6a, st_0 hn91]
                refine StQ.f hF91 ?_
                exact (by repeat (first | with_reducible exact GpY.rf | with_reducible refine GpY.tr ?_ (gd_fo _) | with_reducible refine GpY.tr ?_ (gd_ef _) | with_reducible refine GpY.tr ?_ (gd_cf _) | with_reducible refine GpY.tr ?_ (gd_wt _) | with_reducible refine GpY.tr ?_ (gd_xp _) | with_reducible refine GpY.tr ?_ (gd_acc _) | with_reducible refine GpY.tr ?_ (gd_rai _) | with_reducible refine GpY.tr ?_ (gd_e _) | with_reducible refine GpY.tr ?_ (gd_o _) | with_reducible refine GpY.tr ?_ (gd_c _) | with_reducible refine GpY.tr ?_ (gd_op _) | with_reducible refine GpY.tr ?_ (gd_clp gd_e _ _) | with_reducible refine GpY.tr ?_ (gd_tl _) | with_reducible refine GpY.tr ?_ (gd_sf _ _ _) | with_reducible refine GpY.tr ?_ (gd_cl _) | with_reducible refine GpY.tr ?_ (gd_pc _) | with_reducible refine GpY.tr ?_ (gd_st _) | with_reducible refine GpY.tr ?_ (gd_rw _) | with_reducible refine GpY.tr ?_ (gd_typ _) | with_reducible refine GpY.tr ?_ (gd_dcl _) | with_reducible refine GpY.tr ?_ (gd_va2 _) | with_reducible refine GpY.tr ?_ (gd_cnd _) | with_reducible refine GpY.tr ?_ (gd_tr1 _) | with_reducible refine GpY.tr ?_ (gd_tr2 (fun _ => gd_rw) _) | with_reducible refine GpY.tr ?_ (gd_tr3 (fun _ => gd_rw) _) | with_reducible refine GpY.tr ?_ (gd_fo1 _) | with_reducible refine GpY.tr ?_ (gd_fo2 _) | with_reducible refine GpY.tr ?_ (gd_fo3 _) | with_reducible refine GpY.tr ?_ (gd_fex _) | with_reducible refine GpY.tr ?_ (pg_var.1) | with_reducible refine GpY.tr ?_ (pg_cas.1) | exact GpY.rf))
              · dsimp only [Option.toList, List.cons_append, List.nil_append, Nat.beq, gI_sI, gI_sL, gI_sA, gI_sM, gL_sI, gL_sL, gL_sA, gL_sM, aI_sI, aI_sL, aI_sA, aI_sM, aL_sI, aL_sL, aL_sA, aL_sM]
                have hf91 : frR τ91 = (7 : Int) :: _ := hf91
                refine ⟨fun h95 => absurd h95 (by decide), fun h95 => ?_⟩
                clear h95
                refine hB _ _ _ _ _ (fun m96 hm96 => ?_)
                dsimp only [ugo, uwp, ust, uct, rfd, Bstatement, Nat.beq, lv_args, rlk, rs1, rs2, rdl, rky, rcd, rno, rsw, Value.category, List.filter, List.take, List.drop, List.reverse, List.reverseAux, List.cons_append, List.nil_append, Option.toList, Int.toNat, Int.reduceToNat, if_pos, if_neg, reduceIte, ↓reduceIte, Nat.reduceAdd, Nat.reduceEqDiff, Nat.reduceBEq, beq_self_eq_true, Bool.not_true, Bool.not_false, Bool.and_true, Bool.and_false, Bool.true_and, Bool.false_and, gI_sI, gI_sL, gI_sA, gI_sM, gL_sI, gL_sL, gL_sA, gL_sM, aI_sI, aI_sL, aI_sA, aI_sM, aL_sI, aL_sL, aL_sA, aL_sM, Bstatement_0, Bstatement_14, Bstatement_37, Bstatement_47, Bstatement_51, Bstatement_52, Bstatement_53, Bstatement_63, Bstatement_75, Bstatement_108, Bstatement_115, Bstatement_126, Bstatement_130, Bstatement_131, Bstatement_132, Bstatement_142, Bstatement_147, Bstatement_220, Bstatement_225, Bstatement_230, Bstatement_235, Bstatement_240, Bstatement_245, Bstatement_250, Bstatement_255, Bstatement_260, oi_0, oi_1, oi_123, oi_20, oi_4, oi_41, oi_58, oi_7, Pu_emit, Pu_thing]; try dsimp only
                refine hB _ _ _ _ _ (fun m97 hm97 => ?_)
                dsimp only [ugo, uwp, ust, uct, rfd, Bstatement, Nat.beq, lv_args, rlk, rs1, rs2, rdl, rky, rcd, rno, rsw, Value.category, List.filter, List.take, List.drop, List.reverse, List.reverseAux, List.cons_append, List.nil_append, Option.toList, Int.toNat, Int.reduceToNat, if_pos, if_neg, reduceIte, ↓reduceIte, Nat.reduceAdd, Nat.reduceEqDiff, Nat.reduceBEq, beq_self_eq_true, Bool.not_true, Bool.not_false, Bool.and_true, Bool.and_false, Bool.true_and, Bool.false_and, gI_sI, gI_sL, gI_sA, gI_sM, gL_sI, gL_sL, gL_sA, gL_sM, aI_sI, aI_sL, aI_sA, aI_sM, aL_sI, aL_sL, aL_sA, aL_sM, Bstatement_0, Bstatement_14, Bstatement_37, Bstatement_47, Bstatement_51, Bstatement_52, Bstatement_53, Bstatement_63, Bstatement_75, Bstatement_108, Bstatement_115, Bstatement_126, Bstatement_130, Bstatement_131, Bstatement_132, Bstatement_142, Bstatement_147, Bstatement_220, Bstatement_225, Bstatement_230, Bstatement_235, Bstatement_240, Bstatement_245, Bstatement_250, Bstatement_255, Bstatement_260, oi_0, oi_1, oi_123, oi_20, oi_4, oi_41, oi_58, oi_7, Pu_emit, Pu_thing]; try dsimp only
                unfold Qv_statement
                try dsimp only
                refine Or.inr ⟨rfl, (accY (accY s)), (n - 1), 1, (by repeat (first | exact hR91 | refine SR.i ?_ rfl | refine SR.a ?_ rfl)), (by repeat (first | exact hg91 | refine FgR.i ?_ rfl | refine FgR.a ?_ rfl)), ?_⟩
                rw [st_lab' hnn.2.1 hc8 hc6, xp_y hc6a]
                simp only [frR_i, frR_a, ne_eq, Nat.reduceEqDiff, not_false_eq_true, hf91, hf85, hf79, hf78, hf77, hf76]
                exact pc_st (by decide)
        · dsimp only [Option.toList, List.cons_append, List.nil_append, Nat.beq, gI_sI, gI_sL, gI_sA, gI_sM, gL_sI, gL_sL, gL_sA, gL_sM, aI_sI, aI_sL, aI_sA, aI_sM, aL_sI, aL_sL, aL_sA, aL_sM]
          refine ⟨fun h98 => ?_, fun h98 => absurd h98 (by decide)⟩
          clear h98
          refine hB _ _ _ _ _ (fun m99 hm99 => ?_)
          dsimp only [ugo, uwp, ust, uct, rfd, Bstatement, Nat.beq, lv_args, rlk, rs1, rs2, rdl, rky, rcd, rno, rsw, Value.category, List.filter, List.take, List.drop, List.reverse, List.reverseAux, List.cons_append, List.nil_append, Option.toList, Int.toNat, Int.reduceToNat, if_pos, if_neg, reduceIte, ↓reduceIte, Nat.reduceAdd, Nat.reduceEqDiff, Nat.reduceBEq, beq_self_eq_true, Bool.not_true, Bool.not_false, Bool.and_true, Bool.and_false, Bool.true_and, Bool.false_and, gI_sI, gI_sL, gI_sA, gI_sM, gL_sI, gL_sL, gL_sA, gL_sM, aI_sI, aI_sL, aI_sA, aI_sM, aL_sI, aL_sL, aL_sA, aL_sM, Bstatement_0, Bstatement_14, Bstatement_37, Bstatement_47, Bstatement_51, Bstatement_52, Bstatement_53, Bstatement_63, Bstatement_75, Bstatement_108, Bstatement_115, Bstatement_126, Bstatement_130, Bstatement_131, Bstatement_132, Bstatement_142, Bstatement_147, Bstatement_220, Bstatement_225, Bstatement_230, Bstatement_235, Bstatement_240, Bstatement_245, Bstatement_250, Bstatement_255, Bstatement_260, oi_0, oi_1, oi_123, oi_20, oi_4, oi_41, oi_58, oi_7, Pu_emit, Pu_thing]; try dsimp only
          intro p100
          refine ⟨fun h101 => ?_, fun h101 => ?_⟩
          · refine hB _ _ _ _ _ (fun m102 hm102 => ?_)
            dsimp only [ugo, uwp, ust, uct, rfd, Bstatement, Nat.beq, lv_args, rlk, rs1, rs2, rdl, rky, rcd, rno, rsw, Value.category, List.filter, List.take, List.drop, List.reverse, List.reverseAux, List.cons_append, List.nil_append, Option.toList, Int.toNat, Int.reduceToNat, if_pos, if_neg, reduceIte, ↓reduceIte, Nat.reduceAdd, Nat.reduceEqDiff, Nat.reduceBEq, beq_self_eq_true, Bool.not_true, Bool.not_false, Bool.and_true, Bool.and_false, Bool.true_and, Bool.false_and, gI_sI, gI_sL, gI_sA, gI_sM, gL_sI, gL_sL, gL_sA, gL_sM, aI_sI, aI_sL, aI_sA, aI_sM, aL_sI, aL_sL, aL_sA, aL_sM, Bstatement_0, Bstatement_14, Bstatement_37, Bstatement_47, Bstatement_51, Bstatement_52, Bstatement_53, Bstatement_63, Bstatement_75, Bstatement_108, Bstatement_115, Bstatement_126, Bstatement_130, Bstatement_131, Bstatement_132, Bstatement_142, Bstatement_147, Bstatement_220, Bstatement_225, Bstatement_230, Bstatement_235, Bstatement_240, Bstatement_245, Bstatement_250, Bstatement_255, Bstatement_260, oi_0, oi_1, oi_123, oi_20, oi_4, oi_41, oi_58, oi_7, Pu_emit, Pu_thing]; try dsimp only
            intro p103
            refine ⟨fun h104 => ?_, fun h104 => ?_⟩
            · refine hB _ _ _ _ _ (fun m105 hm105 => ?_)
              dsimp only [ugo, uwp, ust, uct, rfd, Bstatement, Nat.beq, lv_args, rlk, rs1, rs2, rdl, rky, rcd, rno, rsw, Value.category, List.filter, List.take, List.drop, List.reverse, List.reverseAux, List.cons_append, List.nil_append, Option.toList, Int.toNat, Int.reduceToNat, if_pos, if_neg, reduceIte, ↓reduceIte, Nat.reduceAdd, Nat.reduceEqDiff, Nat.reduceBEq, beq_self_eq_true, Bool.not_true, Bool.not_false, Bool.and_true, Bool.and_false, Bool.true_and, Bool.false_and, gI_sI, gI_sL, gI_sA, gI_sM, gL_sI, gL_sL, gL_sA, gL_sM, aI_sI, aI_sL, aI_sA, aI_sM, aL_sI, aL_sL, aL_sA, aL_sM, Bstatement_0, Bstatement_14, Bstatement_37, Bstatement_47, Bstatement_51, Bstatement_52, Bstatement_53, Bstatement_63, Bstatement_75, Bstatement_108, Bstatement_115, Bstatement_126, Bstatement_130, Bstatement_131, Bstatement_132, Bstatement_142, Bstatement_147, Bstatement_220, Bstatement_225, Bstatement_230, Bstatement_235, Bstatement_240, Bstatement_245, Bstatement_250, Bstatement_255, Bstatement_260, oi_0, oi_1, oi_123, oi_20, oi_4, oi_41, oi_58, oi_7, Pu_emit, Pu_thing]; try dsimp only
              have hcw : codY s = 56 := (SR.sh hR).wd (x := 6) (by decide) |>.mp ⟨by lia, Int32.toInt_inj.mp h104⟩
              refine ⟨trivial, fun w106 τ106 hq106 => ?_⟩
              have hq106 : StQ τ106 _ w106 := hq106 s n ⟨(by repeat (first | exact hR | refine SR.i ?_ rfl | refine SR.a ?_ rfl)), (by repeat (first | exact hg | refine FgR.i ?_ rfl | refine FgR.a ?_ rfl)), (by (try simp only [frR_i, frR_a, ne_eq, Nat.reduceEqDiff, not_false_eq_true]); exact hne), (by omega)⟩
              have hv106 : w106 = some (.int 0) ∨ w106 = some (.int 1) := hq106.imp (fun q => q.1) (fun q => q.1)
              rcases hv106 with rfl | rfl
              · dsimp only [Option.toList, List.cons_append, List.nil_append, Nat.beq, gI_sI, gI_sL, gI_sA, gI_sM, gL_sI, gL_sL, gL_sA, gL_sM, aI_sI, aI_sL, aI_sA, aI_sM, aL_sI, aL_sL, aL_sA, aL_sM]
                unfold Qv_statement
                try dsimp only
                first | exact hq106 | (have hq_ := hq106; (try simp only [frR_i, frR_a, ne_eq, Nat.reduceEqDiff, not_false_eq_true] at hq_); exact hq_)
              · dsimp only [Option.toList, List.cons_append, List.nil_append, Nat.beq, gI_sI, gI_sL, gI_sA, gI_sM, gL_sI, gL_sL, gL_sA, gL_sM, aI_sI, aI_sL, aI_sA, aI_sM, aL_sI, aL_sL, aL_sA, aL_sM]
                unfold Qv_statement
                try dsimp only
                first | exact hq106 | (have hq_ := hq106; (try simp only [frR_i, frR_a, ne_eq, Nat.reduceEqDiff, not_false_eq_true] at hq_); exact hq_)
            refine ⟨fun h107 => ?_, fun h107 => ?_⟩
            · refine hB _ _ _ _ _ (fun m108 hm108 => ?_)
              dsimp only [ugo, uwp, ust, uct, rfd, Bstatement, Nat.beq, lv_args, rlk, rs1, rs2, rdl, rky, rcd, rno, rsw, Value.category, List.filter, List.take, List.drop, List.reverse, List.reverseAux, List.cons_append, List.nil_append, Option.toList, Int.toNat, Int.reduceToNat, if_pos, if_neg, reduceIte, ↓reduceIte, Nat.reduceAdd, Nat.reduceEqDiff, Nat.reduceBEq, beq_self_eq_true, Bool.not_true, Bool.not_false, Bool.and_true, Bool.and_false, Bool.true_and, Bool.false_and, gI_sI, gI_sL, gI_sA, gI_sM, gL_sI, gL_sL, gL_sA, gL_sM, aI_sI, aI_sL, aI_sA, aI_sM, aL_sI, aL_sL, aL_sA, aL_sM, Bstatement_0, Bstatement_14, Bstatement_37, Bstatement_47, Bstatement_51, Bstatement_52, Bstatement_53, Bstatement_63, Bstatement_75, Bstatement_108, Bstatement_115, Bstatement_126, Bstatement_130, Bstatement_131, Bstatement_132, Bstatement_142, Bstatement_147, Bstatement_220, Bstatement_225, Bstatement_230, Bstatement_235, Bstatement_240, Bstatement_245, Bstatement_250, Bstatement_255, Bstatement_260, oi_0, oi_1, oi_123, oi_20, oi_4, oi_41, oi_58, oi_7, Pu_emit, Pu_thing]; try dsimp only
              have h6n : ¬ (codY s = 80 ∧ cobY s = 6) := fun q => (by by_cases hz : zAt s < 500; exact hk73 ⟨((SR.sh hR).nx q.1 hz).1, by have e := (tk_sg (a := 58) (d := 6) ((SR.sh hR).nx q.1 hz).2 (by decide)).mpr q.2; exact Int32.toInt_inj.mp e.1, by have e := (tk_sg (a := 58) (d := 6) ((SR.sh hR).nx q.1 hz).2 (by decide)).mpr q.2; exact Int32.toInt_inj.mp e.2⟩; have := cob_l hz; omega)
              have hcw : codY s = 57 := (SR.sh hR).wd (x := 7) (by decide) |>.mp ⟨by lia, Int32.toInt_inj.mp h107⟩
              refine ⟨trivial, fun w109 τ109 hq109 => ?_⟩
              have hq109 : StQ τ109 _ w109 := hq109 s n ⟨(by repeat (first | exact hR | refine SR.i ?_ rfl | refine SR.a ?_ rfl)), (by repeat (first | exact hg | refine FgR.i ?_ rfl | refine FgR.a ?_ rfl)), (by (try simp only [frR_i, frR_a, ne_eq, Nat.reduceEqDiff, not_false_eq_true]); exact hne), (by refine ⟨?_, ?_, ?_, ?_, ?_, ?_, ?_, ?_, ?_, ?_, ?_, h6n⟩ <;> omega)⟩
              have hv109 : w109 = some (.int 0) ∨ w109 = some (.int 1) := hq109.imp (fun q => q.1) (fun q => q.1)
              rcases hv109 with rfl | rfl
              · dsimp only [Option.toList, List.cons_append, List.nil_append, Nat.beq, gI_sI, gI_sL, gI_sA, gI_sM, gL_sI, gL_sL, gL_sA, gL_sM, aI_sI, aI_sL, aI_sA, aI_sM, aL_sI, aL_sL, aL_sA, aL_sM]
                unfold Qv_statement
                try dsimp only
                first | exact hq109 | (have hq_ := hq109; (try simp only [frR_i, frR_a, ne_eq, Nat.reduceEqDiff, not_false_eq_true] at hq_); exact hq_)
              · dsimp only [Option.toList, List.cons_append, List.nil_append, Nat.beq, gI_sI, gI_sL, gI_sA, gI_sM, gL_sI, gL_sL, gL_sA, gL_sM, aI_sI, aI_sL, aI_sA, aI_sM, aL_sI, aL_sL, aL_sA, aL_sM]
                unfold Qv_statement
                try dsimp only
                first | exact hq109 | (have hq_ := hq109; (try simp only [frR_i, frR_a, ne_eq, Nat.reduceEqDiff, not_false_eq_true] at hq_); exact hq_)
            refine ⟨fun h110 => ?_, fun h110 => ?_⟩
            · refine hB _ _ _ _ _ (fun m111 hm111 => ?_)
              dsimp only [ugo, uwp, ust, uct, rfd, Bstatement, Nat.beq, lv_args, rlk, rs1, rs2, rdl, rky, rcd, rno, rsw, Value.category, List.filter, List.take, List.drop, List.reverse, List.reverseAux, List.cons_append, List.nil_append, Option.toList, Int.toNat, Int.reduceToNat, if_pos, if_neg, reduceIte, ↓reduceIte, Nat.reduceAdd, Nat.reduceEqDiff, Nat.reduceBEq, beq_self_eq_true, Bool.not_true, Bool.not_false, Bool.and_true, Bool.and_false, Bool.true_and, Bool.false_and, gI_sI, gI_sL, gI_sA, gI_sM, gL_sI, gL_sL, gL_sA, gL_sM, aI_sI, aI_sL, aI_sA, aI_sM, aL_sI, aL_sL, aL_sA, aL_sM, Bstatement_0, Bstatement_14, Bstatement_37, Bstatement_47, Bstatement_51, Bstatement_52, Bstatement_53, Bstatement_63, Bstatement_75, Bstatement_108, Bstatement_115, Bstatement_126, Bstatement_130, Bstatement_131, Bstatement_132, Bstatement_142, Bstatement_147, Bstatement_220, Bstatement_225, Bstatement_230, Bstatement_235, Bstatement_240, Bstatement_245, Bstatement_250, Bstatement_255, Bstatement_260, oi_0, oi_1, oi_123, oi_20, oi_4, oi_41, oi_58, oi_7, Pu_emit, Pu_thing]; try dsimp only
              have hcw : codY s = 58 := (SR.sh hR).wd (x := 8) (by decide) |>.mp ⟨by lia, Int32.toInt_inj.mp h110⟩
              refine ⟨trivial, fun w112 τ112 hq112 => ?_⟩
              have hq112 : StQ τ112 _ w112 := hq112 s n ⟨(by repeat (first | exact hR | refine SR.i ?_ rfl | refine SR.a ?_ rfl)), (by repeat (first | exact hg | refine FgR.i ?_ rfl | refine FgR.a ?_ rfl)), (by (try simp only [frR_i, frR_a, ne_eq, Nat.reduceEqDiff, not_false_eq_true]); exact hne), (by omega)⟩
              have hv112 : w112 = some (.int 0) ∨ w112 = some (.int 1) := hq112.imp (fun q => q.1) (fun q => q.1)
              rcases hv112 with rfl | rfl
              · dsimp only [Option.toList, List.cons_append, List.nil_append, Nat.beq, gI_sI, gI_sL, gI_sA, gI_sM, gL_sI, gL_sL, gL_sA, gL_sM, aI_sI, aI_sL, aI_sA, aI_sM, aL_sI, aL_sL, aL_sA, aL_sM]
                unfold Qv_statement
                try dsimp only
                first | exact hq112 | (have hq_ := hq112; (try simp only [frR_i, frR_a, ne_eq, Nat.reduceEqDiff, not_false_eq_true] at hq_); exact hq_)
              · dsimp only [Option.toList, List.cons_append, List.nil_append, Nat.beq, gI_sI, gI_sL, gI_sA, gI_sM, gL_sI, gL_sL, gL_sA, gL_sM, aI_sI, aI_sL, aI_sA, aI_sM, aL_sI, aL_sL, aL_sA, aL_sM]
                unfold Qv_statement
                try dsimp only
                first | exact hq112 | (have hq_ := hq112; (try simp only [frR_i, frR_a, ne_eq, Nat.reduceEqDiff, not_false_eq_true] at hq_); exact hq_)
            refine ⟨fun h113 => ?_, fun h113 => ?_⟩
            · refine hB _ _ _ _ _ (fun m114 hm114 => ?_)
              dsimp only [ugo, uwp, ust, uct, rfd, Bstatement, Nat.beq, lv_args, rlk, rs1, rs2, rdl, rky, rcd, rno, rsw, Value.category, List.filter, List.take, List.drop, List.reverse, List.reverseAux, List.cons_append, List.nil_append, Option.toList, Int.toNat, Int.reduceToNat, if_pos, if_neg, reduceIte, ↓reduceIte, Nat.reduceAdd, Nat.reduceEqDiff, Nat.reduceBEq, beq_self_eq_true, Bool.not_true, Bool.not_false, Bool.and_true, Bool.and_false, Bool.true_and, Bool.false_and, gI_sI, gI_sL, gI_sA, gI_sM, gL_sI, gL_sL, gL_sA, gL_sM, aI_sI, aI_sL, aI_sA, aI_sM, aL_sI, aL_sL, aL_sA, aL_sM, Bstatement_0, Bstatement_14, Bstatement_37, Bstatement_47, Bstatement_51, Bstatement_52, Bstatement_53, Bstatement_63, Bstatement_75, Bstatement_108, Bstatement_115, Bstatement_126, Bstatement_130, Bstatement_131, Bstatement_132, Bstatement_142, Bstatement_147, Bstatement_220, Bstatement_225, Bstatement_230, Bstatement_235, Bstatement_240, Bstatement_245, Bstatement_250, Bstatement_255, Bstatement_260, oi_0, oi_1, oi_123, oi_20, oi_4, oi_41, oi_58, oi_7, Pu_emit, Pu_thing]; try dsimp only
              have hcw : codY s = 60 := (SR.sh hR).wd (x := 9) (by decide) |>.mp ⟨by lia, Int32.toInt_inj.mp h113⟩
              refine ⟨trivial, fun w115 τ115 hq115 => ?_⟩
              have hq115 : StQ τ115 _ w115 := hq115 s n ⟨(by repeat (first | exact hR | refine SR.i ?_ rfl | refine SR.a ?_ rfl)), (by repeat (first | exact hg | refine FgR.i ?_ rfl | refine FgR.a ?_ rfl)), (by (try simp only [frR_i, frR_a, ne_eq, Nat.reduceEqDiff, not_false_eq_true]); exact hne), (by omega)⟩
              have hv115 : w115 = some (.int 0) ∨ w115 = some (.int 1) := hq115.imp (fun q => q.1) (fun q => q.1)
              rcases hv115 with rfl | rfl
              · dsimp only [Option.toList, List.cons_append, List.nil_append, Nat.beq, gI_sI, gI_sL, gI_sA, gI_sM, gL_sI, gL_sL, gL_sA, gL_sM, aI_sI, aI_sL, aI_sA, aI_sM, aL_sI, aL_sL, aL_sA, aL_sM]
                unfold Qv_statement
                try dsimp only
                first | exact hq115 | (have hq_ := hq115; (try simp only [frR_i, frR_a, ne_eq, Nat.reduceEqDiff, not_false_eq_true] at hq_); exact hq_)
              · dsimp only [Option.toList, List.cons_append, List.nil_append, Nat.beq, gI_sI, gI_sL, gI_sA, gI_sM, gL_sI, gL_sL, gL_sA, gL_sM, aI_sI, aI_sL, aI_sA, aI_sM, aL_sI, aL_sL, aL_sA, aL_sM]
                unfold Qv_statement
                try dsimp only
                first | exact hq115 | (have hq_ := hq115; (try simp only [frR_i, frR_a, ne_eq, Nat.reduceEqDiff, not_false_eq_true] at hq_); exact hq_)
            refine ⟨fun h116 => ?_, fun h116 => ?_⟩
            · refine hB _ _ _ _ _ (fun m117 hm117 => ?_)
              dsimp only [ugo, uwp, ust, uct, rfd, Bstatement, Nat.beq, lv_args, rlk, rs1, rs2, rdl, rky, rcd, rno, rsw, Value.category, List.filter, List.take, List.drop, List.reverse, List.reverseAux, List.cons_append, List.nil_append, Option.toList, Int.toNat, Int.reduceToNat, if_pos, if_neg, reduceIte, ↓reduceIte, Nat.reduceAdd, Nat.reduceEqDiff, Nat.reduceBEq, beq_self_eq_true, Bool.not_true, Bool.not_false, Bool.and_true, Bool.and_false, Bool.true_and, Bool.false_and, gI_sI, gI_sL, gI_sA, gI_sM, gL_sI, gL_sL, gL_sA, gL_sM, aI_sI, aI_sL, aI_sA, aI_sM, aL_sI, aL_sL, aL_sA, aL_sM, Bstatement_0, Bstatement_14, Bstatement_37, Bstatement_47, Bstatement_51, Bstatement_52, Bstatement_53, Bstatement_63, Bstatement_75, Bstatement_108, Bstatement_115, Bstatement_126, Bstatement_130, Bstatement_131, Bstatement_132, Bstatement_142, Bstatement_147, Bstatement_220, Bstatement_225, Bstatement_230, Bstatement_235, Bstatement_240, Bstatement_245, Bstatement_250, Bstatement_255, Bstatement_260, oi_0, oi_1, oi_123, oi_20, oi_4, oi_41, oi_58, oi_7, Pu_emit, Pu_thing]; try dsimp only
              have hcw : codY s = 59 := (SR.sh hR).wd (x := 10) (by decide) |>.mp ⟨by lia, Int32.toInt_inj.mp h116⟩
              refine ⟨trivial, fun w118 τ118 hq118 => ?_⟩
              have hq118 : StQ τ118 _ w118 := hq118 s n ⟨(by repeat (first | exact hR | refine SR.i ?_ rfl | refine SR.a ?_ rfl)), (by repeat (first | exact hg | refine FgR.i ?_ rfl | refine FgR.a ?_ rfl)), (by (try simp only [frR_i, frR_a, ne_eq, Nat.reduceEqDiff, not_false_eq_true]); exact hne), (by omega)⟩
              have hv118 : w118 = some (.int 0) ∨ w118 = some (.int 1) := hq118.imp (fun q => q.1) (fun q => q.1)
              rcases hv118 with rfl | rfl
              · dsimp only [Option.toList, List.cons_append, List.nil_append, Nat.beq, gI_sI, gI_sL, gI_sA, gI_sM, gL_sI, gL_sL, gL_sA, gL_sM, aI_sI, aI_sL, aI_sA, aI_sM, aL_sI, aL_sL, aL_sA, aL_sM]
                unfold Qv_statement
                try dsimp only
                first | exact hq118 | (have hq_ := hq118; (try simp only [frR_i, frR_a, ne_eq, Nat.reduceEqDiff, not_false_eq_true] at hq_); exact hq_)
              · dsimp only [Option.toList, List.cons_append, List.nil_append, Nat.beq, gI_sI, gI_sL, gI_sA, gI_sM, gL_sI, gL_sL, gL_sA, gL_sM, aI_sI, aI_sL, aI_sA, aI_sM, aL_sI, aL_sL, aL_sA, aL_sM]
                unfold Qv_statement
                try dsimp only
                first | exact hq118 | (have hq_ := hq118; (try simp only [frR_i, frR_a, ne_eq, Nat.reduceEqDiff, not_false_eq_true] at hq_); exact hq_)
            refine ⟨fun h119 => ?_, fun h119 => ?_⟩
            · refine hB _ _ _ _ _ (fun m120 hm120 => ?_)
              dsimp only [ugo, uwp, ust, uct, rfd, Bstatement, Nat.beq, lv_args, rlk, rs1, rs2, rdl, rky, rcd, rno, rsw, Value.category, List.filter, List.take, List.drop, List.reverse, List.reverseAux, List.cons_append, List.nil_append, Option.toList, Int.toNat, Int.reduceToNat, if_pos, if_neg, reduceIte, ↓reduceIte, Nat.reduceAdd, Nat.reduceEqDiff, Nat.reduceBEq, beq_self_eq_true, Bool.not_true, Bool.not_false, Bool.and_true, Bool.and_false, Bool.true_and, Bool.false_and, gI_sI, gI_sL, gI_sA, gI_sM, gL_sI, gL_sL, gL_sA, gL_sM, aI_sI, aI_sL, aI_sA, aI_sM, aL_sI, aL_sL, aL_sA, aL_sM, Bstatement_0, Bstatement_14, Bstatement_37, Bstatement_47, Bstatement_51, Bstatement_52, Bstatement_53, Bstatement_63, Bstatement_75, Bstatement_108, Bstatement_115, Bstatement_126, Bstatement_130, Bstatement_131, Bstatement_132, Bstatement_142, Bstatement_147, Bstatement_220, Bstatement_225, Bstatement_230, Bstatement_235, Bstatement_240, Bstatement_245, Bstatement_250, Bstatement_255, Bstatement_260, oi_0, oi_1, oi_123, oi_20, oi_4, oi_41, oi_58, oi_7, Pu_emit, Pu_thing]; try dsimp only
              have hcw : codY s = 61 := (SR.sh hR).wd (x := 11) (by decide) |>.mp ⟨by lia, Int32.toInt_inj.mp h119⟩
              refine ⟨trivial, fun w121 τ121 hq121 => ?_⟩
              have hq121 : StQ τ121 _ w121 := hq121 s n ⟨(by repeat (first | exact hR | refine SR.i ?_ rfl | refine SR.a ?_ rfl)), (by repeat (first | exact hg | refine FgR.i ?_ rfl | refine FgR.a ?_ rfl)), (by (try simp only [frR_i, frR_a, ne_eq, Nat.reduceEqDiff, not_false_eq_true]); exact hne), (by omega)⟩
              have hv121 : w121 = some (.int 0) ∨ w121 = some (.int 1) := hq121.imp (fun q => q.1) (fun q => q.1)
              rcases hv121 with rfl | rfl
              · dsimp only [Option.toList, List.cons_append, List.nil_append, Nat.beq, gI_sI, gI_sL, gI_sA, gI_sM, gL_sI, gL_sL, gL_sA, gL_sM, aI_sI, aI_sL, aI_sA, aI_sM, aL_sI, aL_sL, aL_sA, aL_sM]
                unfold Qv_statement
                try dsimp only
                first | exact hq121 | (have hq_ := hq121; (try simp only [frR_i, frR_a, ne_eq, Nat.reduceEqDiff, not_false_eq_true] at hq_); exact hq_)
              · dsimp only [Option.toList, List.cons_append, List.nil_append, Nat.beq, gI_sI, gI_sL, gI_sA, gI_sM, gL_sI, gL_sL, gL_sA, gL_sM, aI_sI, aI_sL, aI_sA, aI_sM, aL_sI, aL_sL, aL_sA, aL_sM]
                unfold Qv_statement
                try dsimp only
                first | exact hq121 | (have hq_ := hq121; (try simp only [frR_i, frR_a, ne_eq, Nat.reduceEqDiff, not_false_eq_true] at hq_); exact hq_)
            refine ⟨fun h122 => ?_, fun h122 => ?_⟩
            · refine hB _ _ _ _ _ (fun m123 hm123 => ?_)
              dsimp only [ugo, uwp, ust, uct, rfd, Bstatement, Nat.beq, lv_args, rlk, rs1, rs2, rdl, rky, rcd, rno, rsw, Value.category, List.filter, List.take, List.drop, List.reverse, List.reverseAux, List.cons_append, List.nil_append, Option.toList, Int.toNat, Int.reduceToNat, if_pos, if_neg, reduceIte, ↓reduceIte, Nat.reduceAdd, Nat.reduceEqDiff, Nat.reduceBEq, beq_self_eq_true, Bool.not_true, Bool.not_false, Bool.and_true, Bool.and_false, Bool.true_and, Bool.false_and, gI_sI, gI_sL, gI_sA, gI_sM, gL_sI, gL_sL, gL_sA, gL_sM, aI_sI, aI_sL, aI_sA, aI_sM, aL_sI, aL_sL, aL_sA, aL_sM, Bstatement_0, Bstatement_14, Bstatement_37, Bstatement_47, Bstatement_51, Bstatement_52, Bstatement_53, Bstatement_63, Bstatement_75, Bstatement_108, Bstatement_115, Bstatement_126, Bstatement_130, Bstatement_131, Bstatement_132, Bstatement_142, Bstatement_147, Bstatement_220, Bstatement_225, Bstatement_230, Bstatement_235, Bstatement_240, Bstatement_245, Bstatement_250, Bstatement_255, Bstatement_260, oi_0, oi_1, oi_123, oi_20, oi_4, oi_41, oi_58, oi_7, Pu_emit, Pu_thing]; try dsimp only
              have h6n : ¬ (codY s = 80 ∧ cobY s = 6) := fun q => (by by_cases hz : zAt s < 500; exact hk73 ⟨((SR.sh hR).nx q.1 hz).1, by have e := (tk_sg (a := 58) (d := 6) ((SR.sh hR).nx q.1 hz).2 (by decide)).mpr q.2; exact Int32.toInt_inj.mp e.1, by have e := (tk_sg (a := 58) (d := 6) ((SR.sh hR).nx q.1 hz).2 (by decide)).mpr q.2; exact Int32.toInt_inj.mp e.2⟩; have := cob_l hz; omega)
              have hcw : codY s = 62 := (SR.sh hR).wd (x := 12) (by decide) |>.mp ⟨by lia, Int32.toInt_inj.mp h122⟩
              refine ⟨trivial, fun w124 τ124 hq124 => ?_⟩
              have hq124 : StQ τ124 _ w124 := hq124 s n ⟨(by repeat (first | exact hR | refine SR.i ?_ rfl | refine SR.a ?_ rfl)), (by repeat (first | exact hg | refine FgR.i ?_ rfl | refine FgR.a ?_ rfl)), (by (try simp only [frR_i, frR_a, ne_eq, Nat.reduceEqDiff, not_false_eq_true]); exact hne), (by refine ⟨?_, ?_, ?_, ?_, ?_, ?_, ?_, ?_, ?_, ?_, ?_, h6n⟩ <;> omega)⟩
              have hv124 : w124 = some (.int 0) ∨ w124 = some (.int 1) := hq124.imp (fun q => q.1) (fun q => q.1)
              rcases hv124 with rfl | rfl
              · dsimp only [Option.toList, List.cons_append, List.nil_append, Nat.beq, gI_sI, gI_sL, gI_sA, gI_sM, gL_sI, gL_sL, gL_sA, gL_sM, aI_sI, aI_sL, aI_sA, aI_sM, aL_sI, aL_sL, aL_sA, aL_sM]
                unfold Qv_statement
                try dsimp only
                first | exact hq124 | (have hq_ := hq124; (try simp only [frR_i, frR_a, ne_eq, Nat.reduceEqDiff, not_false_eq_true] at hq_); exact hq_)
              · dsimp only [Option.toList, List.cons_append, List.nil_append, Nat.beq, gI_sI, gI_sL, gI_sA, gI_sM, gL_sI, gL_sL, gL_sA, gL_sM, aI_sI, aI_sL, aI_sA, aI_sM, aL_sI, aL_sL, aL_sA, aL_sM]
                unfold Qv_statement
                try dsimp only
                first | exact hq124 | (have hq_ := hq124; (try simp only [frR_i, frR_a, ne_eq, Nat.reduceEqDiff, not_false_eq_true] at hq_); exact hq_)
            refine ⟨fun h125 => ?_, fun h125 => ?_⟩
            · refine hB _ _ _ _ _ (fun m126 hm126 => ?_)
              dsimp only [ugo, uwp, ust, uct, rfd, Bstatement, Nat.beq, lv_args, rlk, rs1, rs2, rdl, rky, rcd, rno, rsw, Value.category, List.filter, List.take, List.drop, List.reverse, List.reverseAux, List.cons_append, List.nil_append, Option.toList, Int.toNat, Int.reduceToNat, if_pos, if_neg, reduceIte, ↓reduceIte, Nat.reduceAdd, Nat.reduceEqDiff, Nat.reduceBEq, beq_self_eq_true, Bool.not_true, Bool.not_false, Bool.and_true, Bool.and_false, Bool.true_and, Bool.false_and, gI_sI, gI_sL, gI_sA, gI_sM, gL_sI, gL_sL, gL_sA, gL_sM, aI_sI, aI_sL, aI_sA, aI_sM, aL_sI, aL_sL, aL_sA, aL_sM, Bstatement_0, Bstatement_14, Bstatement_37, Bstatement_47, Bstatement_51, Bstatement_52, Bstatement_53, Bstatement_63, Bstatement_75, Bstatement_108, Bstatement_115, Bstatement_126, Bstatement_130, Bstatement_131, Bstatement_132, Bstatement_142, Bstatement_147, Bstatement_220, Bstatement_225, Bstatement_230, Bstatement_235, Bstatement_240, Bstatement_245, Bstatement_250, Bstatement_255, Bstatement_260, oi_0, oi_1, oi_123, oi_20, oi_4, oi_41, oi_58, oi_7, Pu_emit, Pu_thing]; try dsimp only
              have h6n : ¬ (codY s = 80 ∧ cobY s = 6) := fun q => (by by_cases hz : zAt s < 500; exact hk73 ⟨((SR.sh hR).nx q.1 hz).1, by have e := (tk_sg (a := 58) (d := 6) ((SR.sh hR).nx q.1 hz).2 (by decide)).mpr q.2; exact Int32.toInt_inj.mp e.1, by have e := (tk_sg (a := 58) (d := 6) ((SR.sh hR).nx q.1 hz).2 (by decide)).mpr q.2; exact Int32.toInt_inj.mp e.2⟩; have := cob_l hz; omega)
              have hcw : codY s = 63 := (SR.sh hR).wd (x := 13) (by decide) |>.mp ⟨by lia, Int32.toInt_inj.mp h125⟩
              refine ⟨trivial, fun w127 τ127 hq127 => ?_⟩
              have hq127 : StQ τ127 _ w127 := hq127 s n ⟨(by repeat (first | exact hR | refine SR.i ?_ rfl | refine SR.a ?_ rfl)), (by repeat (first | exact hg | refine FgR.i ?_ rfl | refine FgR.a ?_ rfl)), (by (try simp only [frR_i, frR_a, ne_eq, Nat.reduceEqDiff, not_false_eq_true]); exact hne), (by refine ⟨?_, ?_, ?_, ?_, ?_, ?_, ?_, ?_, ?_, ?_, ?_, h6n⟩ <;> omega)⟩
              have hv127 : w127 = some (.int 0) ∨ w127 = some (.int 1) := hq127.imp (fun q => q.1) (fun q => q.1)
              rcases hv127 with rfl | rfl
              · dsimp only [Option.toList, List.cons_append, List.nil_append, Nat.beq, gI_sI, gI_sL, gI_sA, gI_sM, gL_sI, gL_sL, gL_sA, gL_sM, aI_sI, aI_sL, aI_sA, aI_sM, aL_sI, aL_sL, aL_sA, aL_sM]
                unfold Qv_statement
                try dsimp only
                first | exact hq127 | (have hq_ := hq127; (try simp only [frR_i, frR_a, ne_eq, Nat.reduceEqDiff, not_false_eq_true] at hq_); exact hq_)
              · dsimp only [Option.toList, List.cons_append, List.nil_append, Nat.beq, gI_sI, gI_sL, gI_sA, gI_sM, gL_sI, gL_sL, gL_sA, gL_sM, aI_sI, aI_sL, aI_sA, aI_sM, aL_sI, aL_sL, aL_sA, aL_sM]
                unfold Qv_statement
                try dsimp only
                first | exact hq127 | (have hq_ := hq127; (try simp only [frR_i, frR_a, ne_eq, Nat.reduceEqDiff, not_false_eq_true] at hq_); exact hq_)
            refine ⟨fun h128 => ?_, fun h128 => ?_⟩
            · refine hB _ _ _ _ _ (fun m129 hm129 => ?_)
              dsimp only [ugo, uwp, ust, uct, rfd, Bstatement, Nat.beq, lv_args, rlk, rs1, rs2, rdl, rky, rcd, rno, rsw, Value.category, List.filter, List.take, List.drop, List.reverse, List.reverseAux, List.cons_append, List.nil_append, Option.toList, Int.toNat, Int.reduceToNat, if_pos, if_neg, reduceIte, ↓reduceIte, Nat.reduceAdd, Nat.reduceEqDiff, Nat.reduceBEq, beq_self_eq_true, Bool.not_true, Bool.not_false, Bool.and_true, Bool.and_false, Bool.true_and, Bool.false_and, gI_sI, gI_sL, gI_sA, gI_sM, gL_sI, gL_sL, gL_sA, gL_sM, aI_sI, aI_sL, aI_sA, aI_sM, aL_sI, aL_sL, aL_sA, aL_sM, Bstatement_0, Bstatement_14, Bstatement_37, Bstatement_47, Bstatement_51, Bstatement_52, Bstatement_53, Bstatement_63, Bstatement_75, Bstatement_108, Bstatement_115, Bstatement_126, Bstatement_130, Bstatement_131, Bstatement_132, Bstatement_142, Bstatement_147, Bstatement_220, Bstatement_225, Bstatement_230, Bstatement_235, Bstatement_240, Bstatement_245, Bstatement_250, Bstatement_255, Bstatement_260, oi_0, oi_1, oi_123, oi_20, oi_4, oi_41, oi_58, oi_7, Pu_emit, Pu_thing]; try dsimp only
              have hcw : codY s = 64 := (SR.sh hR).wd (x := 14) (by decide) |>.mp ⟨by lia, Int32.toInt_inj.mp h128⟩
              refine ⟨trivial, fun w130 τ130 hq130 => ?_⟩
              have hq130 : StQ τ130 _ w130 := hq130 s n ⟨(by repeat (first | exact hR | refine SR.i ?_ rfl | refine SR.a ?_ rfl)), (by repeat (first | exact hg | refine FgR.i ?_ rfl | refine FgR.a ?_ rfl)), (by (try simp only [frR_i, frR_a, ne_eq, Nat.reduceEqDiff, not_false_eq_true]); exact hne), (by omega)⟩
              have hv130 : w130 = some (.int 0) ∨ w130 = some (.int 1) := hq130.imp (fun q => q.1) (fun q => q.1)
              rcases hv130 with rfl | rfl
              · dsimp only [Option.toList, List.cons_append, List.nil_append, Nat.beq, gI_sI, gI_sL, gI_sA, gI_sM, gL_sI, gL_sL, gL_sA, gL_sM, aI_sI, aI_sL, aI_sA, aI_sM, aL_sI, aL_sL, aL_sA, aL_sM]
                unfold Qv_statement
                try dsimp only
                first | exact hq130 | (have hq_ := hq130; (try simp only [frR_i, frR_a, ne_eq, Nat.reduceEqDiff, not_false_eq_true] at hq_); exact hq_)
              · dsimp only [Option.toList, List.cons_append, List.nil_append, Nat.beq, gI_sI, gI_sL, gI_sA, gI_sM, gL_sI, gL_sL, gL_sA, gL_sM, aI_sI, aI_sL, aI_sA, aI_sM, aL_sI, aL_sL, aL_sA, aL_sM]
                unfold Qv_statement
                try dsimp only
                first | exact hq130 | (have hq_ := hq130; (try simp only [frR_i, frR_a, ne_eq, Nat.reduceEqDiff, not_false_eq_true] at hq_); exact hq_)
            refine ⟨fun h131 => ?_, fun h131 => ?_⟩
            · refine hB _ _ _ _ _ (fun m132 hm132 => ?_)
              dsimp only [ugo, uwp, ust, uct, rfd, Bstatement, Nat.beq, lv_args, rlk, rs1, rs2, rdl, rky, rcd, rno, rsw, Value.category, List.filter, List.take, List.drop, List.reverse, List.reverseAux, List.cons_append, List.nil_append, Option.toList, Int.toNat, Int.reduceToNat, if_pos, if_neg, reduceIte, ↓reduceIte, Nat.reduceAdd, Nat.reduceEqDiff, Nat.reduceBEq, beq_self_eq_true, Bool.not_true, Bool.not_false, Bool.and_true, Bool.and_false, Bool.true_and, Bool.false_and, gI_sI, gI_sL, gI_sA, gI_sM, gL_sI, gL_sL, gL_sA, gL_sM, aI_sI, aI_sL, aI_sA, aI_sM, aL_sI, aL_sL, aL_sA, aL_sM, Bstatement_0, Bstatement_14, Bstatement_37, Bstatement_47, Bstatement_51, Bstatement_52, Bstatement_53, Bstatement_63, Bstatement_75, Bstatement_108, Bstatement_115, Bstatement_126, Bstatement_130, Bstatement_131, Bstatement_132, Bstatement_142, Bstatement_147, Bstatement_220, Bstatement_225, Bstatement_230, Bstatement_235, Bstatement_240, Bstatement_245, Bstatement_250, Bstatement_255, Bstatement_260, oi_0, oi_1, oi_123, oi_20, oi_4, oi_41, oi_58, oi_7, Pu_emit, Pu_thing]; try dsimp only
              have hcw : codY s = 65 := (SR.sh hR).wd (x := 15) (by decide) |>.mp ⟨by lia, Int32.toInt_inj.mp h131⟩
              refine ⟨trivial, fun w133 τ133 hq133 => ?_⟩
              have hq133 : StQ τ133 _ w133 := hq133 s n ⟨(by repeat (first | exact hR | refine SR.i ?_ rfl | refine SR.a ?_ rfl)), (by repeat (first | exact hg | refine FgR.i ?_ rfl | refine FgR.a ?_ rfl)), (by (try simp only [frR_i, frR_a, ne_eq, Nat.reduceEqDiff, not_false_eq_true]); exact hne), (by omega)⟩
              have hv133 : w133 = some (.int 0) ∨ w133 = some (.int 1) := hq133.imp (fun q => q.1) (fun q => q.1)
              rcases hv133 with rfl | rfl
              · dsimp only [Option.toList, List.cons_append, List.nil_append, Nat.beq, gI_sI, gI_sL, gI_sA, gI_sM, gL_sI, gL_sL, gL_sA, gL_sM, aI_sI, aI_sL, aI_sA, aI_sM, aL_sI, aL_sL, aL_sA, aL_sM]
                unfold Qv_statement
                try dsimp only
                first | exact hq133 | (have hq_ := hq133; (try simp only [frR_i, frR_a, ne_eq, Nat.reduceEqDiff, not_false_eq_true] at hq_); exact hq_)
              · dsimp only [Option.toList, List.cons_append, List.nil_append, Nat.beq, gI_sI, gI_sL, gI_sA, gI_sM, gL_sI, gL_sL, gL_sA, gL_sM, aI_sI, aI_sL, aI_sA, aI_sM, aL_sI, aL_sL, aL_sA, aL_sM]
                unfold Qv_statement
                try dsimp only
                first | exact hq133 | (have hq_ := hq133; (try simp only [frR_i, frR_a, ne_eq, Nat.reduceEqDiff, not_false_eq_true] at hq_); exact hq_)
            refine ⟨fun h134 => ?_, fun h134 => ?_⟩
            · refine hB _ _ _ _ _ (fun m135 hm135 => ?_)
              dsimp only [ugo, uwp, ust, uct, rfd, Bstatement, Nat.beq, lv_args, rlk, rs1, rs2, rdl, rky, rcd, rno, rsw, Value.category, List.filter, List.take, List.drop, List.reverse, List.reverseAux, List.cons_append, List.nil_append, Option.toList, Int.toNat, Int.reduceToNat, if_pos, if_neg, reduceIte, ↓reduceIte, Nat.reduceAdd, Nat.reduceEqDiff, Nat.reduceBEq, beq_self_eq_true, Bool.not_true, Bool.not_false, Bool.and_true, Bool.and_false, Bool.true_and, Bool.false_and, gI_sI, gI_sL, gI_sA, gI_sM, gL_sI, gL_sL, gL_sA, gL_sM, aI_sI, aI_sL, aI_sA, aI_sM, aL_sI, aL_sL, aL_sA, aL_sM, Bstatement_0, Bstatement_14, Bstatement_37, Bstatement_47, Bstatement_51, Bstatement_52, Bstatement_53, Bstatement_63, Bstatement_75, Bstatement_108, Bstatement_115, Bstatement_126, Bstatement_130, Bstatement_131, Bstatement_132, Bstatement_142, Bstatement_147, Bstatement_220, Bstatement_225, Bstatement_230, Bstatement_235, Bstatement_240, Bstatement_245, Bstatement_250, Bstatement_255, Bstatement_260, oi_0, oi_1, oi_123, oi_20, oi_4, oi_41, oi_58, oi_7, Pu_emit, Pu_thing]; try dsimp only
              have hcw : codY s = 66 := (SR.sh hR).wd (x := 16) (by decide) |>.mp ⟨by lia, Int32.toInt_inj.mp h134⟩
              refine ⟨trivial, fun w136 τ136 hq136 => ?_⟩
              have hq136 : StQ τ136 _ w136 := hq136 s n ⟨(by repeat (first | exact hR | refine SR.i ?_ rfl | refine SR.a ?_ rfl)), (by repeat (first | exact hg | refine FgR.i ?_ rfl | refine FgR.a ?_ rfl)), (by (try simp only [frR_i, frR_a, ne_eq, Nat.reduceEqDiff, not_false_eq_true]); exact hne), (by omega)⟩
              have hv136 : w136 = some (.int 0) ∨ w136 = some (.int 1) := hq136.imp (fun q => q.1) (fun q => q.1)
              rcases hv136 with rfl | rfl
              · dsimp only [Option.toList, List.cons_append, List.nil_append, Nat.beq, gI_sI, gI_sL, gI_sA, gI_sM, gL_sI, gL_sL, gL_sA, gL_sM, aI_sI, aI_sL, aI_sA, aI_sM, aL_sI, aL_sL, aL_sA, aL_sM]
                unfold Qv_statement
                try dsimp only
                first | exact hq136 | (have hq_ := hq136; (try simp only [frR_i, frR_a, ne_eq, Nat.reduceEqDiff, not_false_eq_true] at hq_); exact hq_)
              · dsimp only [Option.toList, List.cons_append, List.nil_append, Nat.beq, gI_sI, gI_sL, gI_sA, gI_sM, gL_sI, gL_sL, gL_sA, gL_sM, aI_sI, aI_sL, aI_sA, aI_sM, aL_sI, aL_sL, aL_sA, aL_sM]
                unfold Qv_statement
                try dsimp only
                first | exact hq136 | (have hq_ := hq136; (try simp only [frR_i, frR_a, ne_eq, Nat.reduceEqDiff, not_false_eq_true] at hq_); exact hq_)
            refine ⟨fun h137 => ?_, fun h137 => ?_⟩
            · refine hB _ _ _ _ _ (fun m138 hm138 => ?_)
              dsimp only [ugo, uwp, ust, uct, rfd, Bstatement, Nat.beq, lv_args, rlk, rs1, rs2, rdl, rky, rcd, rno, rsw, Value.category, List.filter, List.take, List.drop, List.reverse, List.reverseAux, List.cons_append, List.nil_append, Option.toList, Int.toNat, Int.reduceToNat, if_pos, if_neg, reduceIte, ↓reduceIte, Nat.reduceAdd, Nat.reduceEqDiff, Nat.reduceBEq, beq_self_eq_true, Bool.not_true, Bool.not_false, Bool.and_true, Bool.and_false, Bool.true_and, Bool.false_and, gI_sI, gI_sL, gI_sA, gI_sM, gL_sI, gL_sL, gL_sA, gL_sM, aI_sI, aI_sL, aI_sA, aI_sM, aL_sI, aL_sL, aL_sA, aL_sM, Bstatement_0, Bstatement_14, Bstatement_37, Bstatement_47, Bstatement_51, Bstatement_52, Bstatement_53, Bstatement_63, Bstatement_75, Bstatement_108, Bstatement_115, Bstatement_126, Bstatement_130, Bstatement_131, Bstatement_132, Bstatement_142, Bstatement_147, Bstatement_220, Bstatement_225, Bstatement_230, Bstatement_235, Bstatement_240, Bstatement_245, Bstatement_250, Bstatement_255, Bstatement_260, oi_0, oi_1, oi_123, oi_20, oi_4, oi_41, oi_58, oi_7, Pu_emit, Pu_thing]; try dsimp only
              have hcw : codY s = 67 := (SR.sh hR).wd (x := 17) (by decide) |>.mp ⟨by lia, Int32.toInt_inj.mp h137⟩
              refine ⟨trivial, fun w139 τ139 hq139 => ?_⟩
              have hq139 : StQ τ139 _ w139 := hq139 s n ⟨(by repeat (first | exact hR | refine SR.i ?_ rfl | refine SR.a ?_ rfl)), (by repeat (first | exact hg | refine FgR.i ?_ rfl | refine FgR.a ?_ rfl)), (by (try simp only [frR_i, frR_a, ne_eq, Nat.reduceEqDiff, not_false_eq_true]); exact hne), (by omega)⟩
              have hv139 : w139 = some (.int 0) ∨ w139 = some (.int 1) := hq139.imp (fun q => q.1) (fun q => q.1)
              rcases hv139 with rfl | rfl
              · dsimp only [Option.toList, List.cons_append, List.nil_append, Nat.beq, gI_sI, gI_sL, gI_sA, gI_sM, gL_sI, gL_sL, gL_sA, gL_sM, aI_sI, aI_sL, aI_sA, aI_sM, aL_sI, aL_sL, aL_sA, aL_sM]
                unfold Qv_statement
                try dsimp only
                first | exact hq139 | (have hq_ := hq139; (try simp only [frR_i, frR_a, ne_eq, Nat.reduceEqDiff, not_false_eq_true] at hq_); exact hq_)
              · dsimp only [Option.toList, List.cons_append, List.nil_append, Nat.beq, gI_sI, gI_sL, gI_sA, gI_sM, gL_sI, gL_sL, gL_sA, gL_sM, aI_sI, aI_sL, aI_sA, aI_sM, aL_sI, aL_sL, aL_sA, aL_sM]
                unfold Qv_statement
                try dsimp only
                first | exact hq139 | (have hq_ := hq139; (try simp only [frR_i, frR_a, ne_eq, Nat.reduceEqDiff, not_false_eq_true] at hq_); exact hq_)
            refine ⟨fun h140 => ?_, fun h140 => ?_⟩
            · refine hB _ _ _ _ _ (fun m141 hm141 => ?_)
              dsimp only [ugo, uwp, ust, uct, rfd, Bstatement, Nat.beq, lv_args, rlk, rs1, rs2, rdl, rky, rcd, rno, rsw, Value.category, List.filter, List.take, List.drop, List.reverse, List.reverseAux, List.cons_append, List.nil_append, Option.toList, Int.toNat, Int.reduceToNat, if_pos, if_neg, reduceIte, ↓reduceIte, Nat.reduceAdd, Nat.reduceEqDiff, Nat.reduceBEq, beq_self_eq_true, Bool.not_true, Bool.not_false, Bool.and_true, Bool.and_false, Bool.true_and, Bool.false_and, gI_sI, gI_sL, gI_sA, gI_sM, gL_sI, gL_sL, gL_sA, gL_sM, aI_sI, aI_sL, aI_sA, aI_sM, aL_sI, aL_sL, aL_sA, aL_sM, Bstatement_0, Bstatement_14, Bstatement_37, Bstatement_47, Bstatement_51, Bstatement_52, Bstatement_53, Bstatement_63, Bstatement_75, Bstatement_108, Bstatement_115, Bstatement_126, Bstatement_130, Bstatement_131, Bstatement_132, Bstatement_142, Bstatement_147, Bstatement_220, Bstatement_225, Bstatement_230, Bstatement_235, Bstatement_240, Bstatement_245, Bstatement_250, Bstatement_255, Bstatement_260, oi_0, oi_1, oi_123, oi_20, oi_4, oi_41, oi_58, oi_7, Pu_emit, Pu_thing]; try dsimp only
              have hcw : codY s = 68 := (SR.sh hR).wd (x := 18) (by decide) |>.mp ⟨by lia, Int32.toInt_inj.mp h140⟩
              refine ⟨trivial, fun w142 τ142 hq142 => ?_⟩
              have hq142 : StQ τ142 _ w142 := hq142 s n ⟨(by repeat (first | exact hR | refine SR.i ?_ rfl | refine SR.a ?_ rfl)), (by repeat (first | exact hg | refine FgR.i ?_ rfl | refine FgR.a ?_ rfl)), (by (try simp only [frR_i, frR_a, ne_eq, Nat.reduceEqDiff, not_false_eq_true]); exact hne), (by omega)⟩
              have hv142 : w142 = some (.int 0) ∨ w142 = some (.int 1) := hq142.imp (fun q => q.1) (fun q => q.1)
              rcases hv142 with rfl | rfl
              · dsimp only [Option.toList, List.cons_append, List.nil_append, Nat.beq, gI_sI, gI_sL, gI_sA, gI_sM, gL_sI, gL_sL, gL_sA, gL_sM, aI_sI, aI_sL, aI_sA, aI_sM, aL_sI, aL_sL, aL_sA, aL_sM]
                unfold Qv_statement
                try dsimp only
                first | exact hq142 | (have hq_ := hq142; (try simp only [frR_i, frR_a, ne_eq, Nat.reduceEqDiff, not_false_eq_true] at hq_); exact hq_)
              · dsimp only [Option.toList, List.cons_append, List.nil_append, Nat.beq, gI_sI, gI_sL, gI_sA, gI_sM, gL_sI, gL_sL, gL_sA, gL_sM, aI_sI, aI_sL, aI_sA, aI_sM, aL_sI, aL_sL, aL_sA, aL_sM]
                unfold Qv_statement
                try dsimp only
                first | exact hq142 | (have hq_ := hq142; (try simp only [frR_i, frR_a, ne_eq, Nat.reduceEqDiff, not_false_eq_true] at hq_); exact hq_)
            refine hB _ _ _ _ _ (fun m143 hm143 => ?_)
            dsimp only [ugo, uwp, ust, uct, rfd, Bstatement, Nat.beq, lv_args, rlk, rs1, rs2, rdl, rky, rcd, rno, rsw, Value.category, List.filter, List.take, List.drop, List.reverse, List.reverseAux, List.cons_append, List.nil_append, Option.toList, Int.toNat, Int.reduceToNat, if_pos, if_neg, reduceIte, ↓reduceIte, Nat.reduceAdd, Nat.reduceEqDiff, Nat.reduceBEq, beq_self_eq_true, Bool.not_true, Bool.not_false, Bool.and_true, Bool.and_false, Bool.true_and, Bool.false_and, gI_sI, gI_sL, gI_sA, gI_sM, gL_sI, gL_sL, gL_sA, gL_sM, aI_sI, aI_sL, aI_sA, aI_sM, aL_sI, aL_sL, aL_sA, aL_sM, Bstatement_0, Bstatement_14, Bstatement_37, Bstatement_47, Bstatement_51, Bstatement_52, Bstatement_53, Bstatement_63, Bstatement_75, Bstatement_108, Bstatement_115, Bstatement_126, Bstatement_130, Bstatement_131, Bstatement_132, Bstatement_142, Bstatement_147, Bstatement_220, Bstatement_225, Bstatement_230, Bstatement_235, Bstatement_240, Bstatement_245, Bstatement_250, Bstatement_255, Bstatement_260, oi_0, oi_1, oi_123, oi_20, oi_4, oi_41, oi_58, oi_7, Pu_emit, Pu_thing]; try dsimp only
            have h6n : ¬ (codY s = 80 ∧ cobY s = 6) := fun q => (by by_cases hz : zAt s < 500; exact hk73 ⟨((SR.sh hR).nx q.1 hz).1, by have e := (tk_sg (a := 58) (d := 6) ((SR.sh hR).nx q.1 hz).2 (by decide)).mpr q.2; exact Int32.toInt_inj.mp e.1, by have e := (tk_sg (a := 58) (d := 6) ((SR.sh hR).nx q.1 hz).2 (by decide)).mpr q.2; exact Int32.toInt_inj.mp e.2⟩; have := cob_l hz; omega)
            have hw6_ : ¬ codY s = 56 := fun q => absurd (congrArg Int32.toInt ((SR.sh hR).wd (x := 6) (by decide) |>.mpr q).2) h104
            have hw7_ : ¬ codY s = 57 := fun q => absurd (congrArg Int32.toInt ((SR.sh hR).wd (x := 7) (by decide) |>.mpr q).2) h107
            have hw8_ : ¬ codY s = 58 := fun q => absurd (congrArg Int32.toInt ((SR.sh hR).wd (x := 8) (by decide) |>.mpr q).2) h110
            have hw9_ : ¬ codY s = 60 := fun q => absurd (congrArg Int32.toInt ((SR.sh hR).wd (x := 9) (by decide) |>.mpr q).2) h113
            have hw10_ : ¬ codY s = 59 := fun q => absurd (congrArg Int32.toInt ((SR.sh hR).wd (x := 10) (by decide) |>.mpr q).2) h116
            have hw11_ : ¬ codY s = 61 := fun q => absurd (congrArg Int32.toInt ((SR.sh hR).wd (x := 11) (by decide) |>.mpr q).2) h119
            have hw12_ : ¬ codY s = 62 := fun q => absurd (congrArg Int32.toInt ((SR.sh hR).wd (x := 12) (by decide) |>.mpr q).2) h122
            have hw13_ : ¬ codY s = 63 := fun q => absurd (congrArg Int32.toInt ((SR.sh hR).wd (x := 13) (by decide) |>.mpr q).2) h125
            have hw14_ : ¬ codY s = 64 := fun q => absurd (congrArg Int32.toInt ((SR.sh hR).wd (x := 14) (by decide) |>.mpr q).2) h128
            have hw15_ : ¬ codY s = 65 := fun q => absurd (congrArg Int32.toInt ((SR.sh hR).wd (x := 15) (by decide) |>.mpr q).2) h131
            have hw16_ : ¬ codY s = 66 := fun q => absurd (congrArg Int32.toInt ((SR.sh hR).wd (x := 16) (by decide) |>.mpr q).2) h134
            have hw17_ : ¬ codY s = 67 := fun q => absurd (congrArg Int32.toInt ((SR.sh hR).wd (x := 17) (by decide) |>.mpr q).2) h137
            have hw18_ : ¬ codY s = 68 := fun q => absurd (congrArg Int32.toInt ((SR.sh hR).wd (x := 18) (by decide) |>.mpr q).2) h140
            have hw4 : 50 ≤ codY s := by have := (SR.sh hR).ki.2.2.2.2.2.1.mp (by lia); omega
            refine ⟨trivial, fun w144 τ144 hq144 => ?_⟩
            have hq144 : StQ τ144 _ w144 := hq144 s n ⟨(by repeat (first | exact hR | refine SR.i ?_ rfl | refine SR.a ?_ rfl)), (by repeat (first | exact hg | refine FgR.i ?_ rfl | refine FgR.a ?_ rfl)), (by (try simp only [frR_i, frR_a, ne_eq, Nat.reduceEqDiff, not_false_eq_true]); exact hne), (by refine ⟨?_, ?_, ?_, ?_, ?_, ?_, ?_, ?_, ?_, ?_, ?_, h6n⟩ <;> omega)⟩
            have hv144 : w144 = some (.int 0) ∨ w144 = some (.int 1) := hq144.imp (fun q => q.1) (fun q => q.1)
            rcases hv144 with rfl | rfl
            · dsimp only [Option.toList, List.cons_append, List.nil_append, Nat.beq, gI_sI, gI_sL, gI_sA, gI_sM, gL_sI, gL_sL, gL_sA, gL_sM, aI_sI, aI_sL, aI_sA, aI_sM, aL_sI, aL_sL, aL_sA, aL_sM]
              unfold Qv_statement
              try dsimp only
              first | exact hq144 | (have hq_ := hq144; (try simp only [frR_i, frR_a, ne_eq, Nat.reduceEqDiff, not_false_eq_true] at hq_); exact hq_)
            · dsimp only [Option.toList, List.cons_append, List.nil_append, Nat.beq, gI_sI, gI_sL, gI_sA, gI_sM, gL_sI, gL_sL, gL_sA, gL_sM, aI_sI, aI_sL, aI_sA, aI_sM, aL_sI, aL_sL, aL_sA, aL_sM]
              unfold Qv_statement
              try dsimp only
              first | exact hq144 | (have hq_ := hq144; (try simp only [frR_i, frR_a, ne_eq, Nat.reduceEqDiff, not_false_eq_true] at hq_); exact hq_)
          · refine hB _ _ _ _ _ (fun m145 hm145 => ?_)
            dsimp only [ugo, uwp, ust, uct, rfd, Bstatement, Nat.beq, lv_args, rlk, rs1, rs2, rdl, rky, rcd, rno, rsw, Value.category, List.filter, List.take, List.drop, List.reverse, List.reverseAux, List.cons_append, List.nil_append, Option.toList, Int.toNat, Int.reduceToNat, if_pos, if_neg, reduceIte, ↓reduceIte, Nat.reduceAdd, Nat.reduceEqDiff, Nat.reduceBEq, beq_self_eq_true, Bool.not_true, Bool.not_false, Bool.and_true, Bool.and_false, Bool.true_and, Bool.false_and, gI_sI, gI_sL, gI_sA, gI_sM, gL_sI, gL_sL, gL_sA, gL_sM, aI_sI, aI_sL, aI_sA, aI_sM, aL_sI, aL_sL, aL_sA, aL_sM, Bstatement_0, Bstatement_14, Bstatement_37, Bstatement_47, Bstatement_51, Bstatement_52, Bstatement_53, Bstatement_63, Bstatement_75, Bstatement_108, Bstatement_115, Bstatement_126, Bstatement_130, Bstatement_131, Bstatement_132, Bstatement_142, Bstatement_147, Bstatement_220, Bstatement_225, Bstatement_230, Bstatement_235, Bstatement_240, Bstatement_245, Bstatement_250, Bstatement_255, Bstatement_260, oi_0, oi_1, oi_123, oi_20, oi_4, oi_41, oi_58, oi_7, Pu_emit, Pu_thing]; try dsimp only
            have h6n : ¬ (codY s = 80 ∧ cobY s = 6) := fun q => (by by_cases hz : zAt s < 500; exact hk73 ⟨((SR.sh hR).nx q.1 hz).1, by have e := (tk_sg (a := 58) (d := 6) ((SR.sh hR).nx q.1 hz).2 (by decide)).mpr q.2; exact Int32.toInt_inj.mp e.1, by have e := (tk_sg (a := 58) (d := 6) ((SR.sh hR).nx q.1 hz).2 (by decide)).mpr q.2; exact Int32.toInt_inj.mp e.2⟩; have := cob_l hz; omega)
            have hw4 : ¬ (50 ≤ codY s ∧ codY s ≤ 73) := fun q => h101 ((SR.sh hR).ki.2.2.2.2.2.1.mpr q)
            refine ⟨trivial, fun w146 τ146 hq146 => ?_⟩
            have hq146 : StQ τ146 _ w146 := hq146 s n ⟨(by repeat (first | exact hR | refine SR.i ?_ rfl | refine SR.a ?_ rfl)), (by repeat (first | exact hg | refine FgR.i ?_ rfl | refine FgR.a ?_ rfl)), (by (try simp only [frR_i, frR_a, ne_eq, Nat.reduceEqDiff, not_false_eq_true]); exact hne), (by refine ⟨?_, ?_, ?_, ?_, ?_, ?_, ?_, ?_, ?_, ?_, ?_, h6n⟩ <;> omega)⟩
            have hv146 : w146 = some (.int 0) ∨ w146 = some (.int 1) := hq146.imp (fun q => q.1) (fun q => q.1)
            rcases hv146 with rfl | rfl
            · dsimp only [Option.toList, List.cons_append, List.nil_append, Nat.beq, gI_sI, gI_sL, gI_sA, gI_sM, gL_sI, gL_sL, gL_sA, gL_sM, aI_sI, aI_sL, aI_sA, aI_sM, aL_sI, aL_sL, aL_sA, aL_sM]
              unfold Qv_statement
              try dsimp only
              first | exact hq146 | (have hq_ := hq146; (try simp only [frR_i, frR_a, ne_eq, Nat.reduceEqDiff, not_false_eq_true] at hq_); exact hq_)
            · dsimp only [Option.toList, List.cons_append, List.nil_append, Nat.beq, gI_sI, gI_sL, gI_sA, gI_sM, gL_sI, gL_sL, gL_sA, gL_sM, aI_sI, aI_sL, aI_sA, aI_sM, aL_sI, aL_sL, aL_sA, aL_sM]
              unfold Qv_statement
              try dsimp only
              first | exact hq146 | (have hq_ := hq146; (try simp only [frR_i, frR_a, ne_eq, Nat.reduceEqDiff, not_false_eq_true] at hq_); exact hq_)
  next => exact hP.elim
theorem w_statement : UMet 49 (fun _ _ => True) Qw_statement := fun A1 σ _ w τ h s n hP => v_statement s n A1 σ hP w τ h
