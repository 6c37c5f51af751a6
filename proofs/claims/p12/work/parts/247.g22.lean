theorem nd_go {x : TxY} {e : Int} (h : e < x.2) (hc : isDY (btY x e)) : ndY x (x.2 - e).toNat e = ndY x (x.2 - (e + 1)).toNat (e + 1) := by
  rw [fu_s h, ndY, if_pos hc]
theorem nd_no {x : TxY} {e : Int} (hc : ¬ isDY (btY x e)) : ndY x (x.2 - e).toNat e = e := by
  by_cases h : e < x.2
  · rw [fu_s h, ndY, if_neg hc]
  · rw [fu_z h]
    rfl
theorem atR.e {v b k : Int} (h : atR v b) (h0 : k ≠ 0) (h1 : k ≠ -1) : v = k ↔ b = k := by
  rcases h with h | h
  · rw [h]
  · omega
theorem i32_k {v : Int32} {b : Int} (h : v.toInt = b) (k : Int32) : v = k ↔ b = k.toInt := by rw [← Int32.toInt_inj, h]
theorem i32_r {v k : Int32} {b : Int} (h : atR v.toInt b) (h0 : k.toInt ≠ 0) (h1 : k.toInt ≠ -1) : v = k ↔ b = k.toInt := by rw [← Int32.toInt_inj]; exact h.e h0 h1
theorem i32_pk {n : Int32} {a : Int} {k : Int32} (h : n.toInt = a) (h0 : 0 ≤ a) (h1 : a ≤ 100000) (k0 : 0 ≤ k.toInt) (k1 : k.toInt ≤ 100) : (n + k).toInt = a + k.toInt := by
  rw [Int32.toInt_add, h]
  exact Int.bmod_eq_of_le (by omega) (by omega)
theorem i32_le {k : Int32} (v : Int32) : k ≤ v ↔ k.toInt ≤ v.toInt := Int32.le_iff_toInt_le
def Pv_number (x : TxY) (i : Int) : UP1 := fun A1 σ => match A1 with
  | [.int t] => TxR σ x ∧ (gI σ 13).toInt = i ∧ 0 ≤ i ∧ i < x.2
  | _ => False
def Qv_number (x : TxY) (i : Int) : UQ1 := fun A1 σ w τ => match A1 with
  | [.int t] => w = none ∧ LkR t.toNatClampNeg σ τ ∧ (gI τ 13).toInt = (if btY x (ndY x (x.2 - i).toNat i) = 76 then ndY x (x.2 - i).toNat i + 1 else ndY x (x.2 - i).toNat i) ∧ (19 < ndY x (x.2 - i).toNat i - i → aI τ 3 t.toNatClampNeg = 6) ∧ (¬ 19 < ndY x (x.2 - i).toNat i - i → aI τ 3 t.toNatClampNeg = 2)
  | _ => False
def Qw_number : UQ1 := fun A1 σ w τ => ∀ (x : TxY) (i : Int), Pv_number x i A1 σ → Qv_number x i A1 σ w τ
set_option maxRecDepth 100000 in
set_option maxHeartbeats 4000000 in
theorem v_number (x : TxY) (i : Int) : UMet 9 (Pv_number x i) (Qv_number x i) := by
  refine UMet.by Bnumber [(3, (fun _ _ => True), Qw_at), (5, (fun _ _ => True), Qw_isDigit)] rfl (ucc w_at (ucc w_isDigit uc0)) ?_
  intro A1 σ hP K hB hW
  unfold Pv_number at hP
  split at hP
  next t =>
    obtain ⟨hT0, hs0, hi0, hi1⟩ := hP
    have t147 : ∀ (N : Nat) (Y : RS) (e : Int) (h : Int64) (lo v : Int32), LkR t.toNatClampNeg σ Y → (gI Y 13).toInt = (if btY x e = 76 then e + 1 else e) → ndY x (x.2 - i).toNat i = e → ((19 < e - i → v = 6) ∧ (¬ 19 < e - i → v = 2)) → K N 147 [(0, .ref 1000), (1, .int t), (3, .long h), (5, .int lo)] [.int v, .int t, .ref 3] Y := by
      intro N Y e h lo v hL hs hE hk
      refine hB _ _ _ _ _ (fun m1 hm1 => ?_)
      dsimp only [ugo, uwp, ust, uct, rfd, Bnumber, Nat.beq, lv_args, rlk, rs1, rs2, rdl, rky, rcd, rno, rsw, Value.category, List.filter, List.take, List.drop, List.reverse, List.reverseAux, List.cons_append, List.nil_append, Option.toList, Int.toNat, Int.reduceToNat, if_pos, if_neg, reduceIte, ↓reduceIte, Nat.reduceAdd, Nat.reduceEqDiff, Nat.reduceBEq, beq_self_eq_true, Bool.not_true, Bool.not_false, Bool.and_true, Bool.and_false, Bool.true_and, Bool.false_and, gI_sI, gI_sL, gI_sA, gI_sM, gL_sI, gL_sL, gL_sA, gL_sM, aI_sI, aI_sL, aI_sA, aI_sM, aL_sI, aL_sL, aL_sA, aL_sM, Bnumber_0, Bnumber_7, Bnumber_22, Bnumber_43, Bnumber_51, Bnumber_58, Bnumber_61, Bnumber_87, Bnumber_105, Bnumber_109, Bnumber_110, Bnumber_120, Bnumber_130, Bnumber_141, Bnumber_146, Bnumber_147, Bnumber_164, Bnumber_174, Bnumber_178, Bnumber_184, Bnumber_188, Bnumber_189, Bnumber_193, Bnumber_203, Bnumber_209, Bnumber_217, Bnumber_221, Bnumber_229, Bnumber_233, Bnumber_234, Bnumber_235, oi_0, oi_1, oi_19, oi_2, oi_48, oi_6, oi_76, oi_8]; try dsimp only
      intro p2
      intro p3
      intro p4
      refine ⟨fun h5 => ?_, fun h5 => ?_⟩
      · refine hB _ _ _ _ _ (fun m6 hm6 => ?_)
        dsimp only [ugo, uwp, ust, uct, rfd, Bnumber, Nat.beq, lv_args, rlk, rs1, rs2, rdl, rky, rcd, rno, rsw, Value.category, List.filter, List.take, List.drop, List.reverse, List.reverseAux, List.cons_append, List.nil_append, Option.toList, Int.toNat, Int.reduceToNat, if_pos, if_neg, reduceIte, ↓reduceIte, Nat.reduceAdd, Nat.reduceEqDiff, Nat.reduceBEq, beq_self_eq_true, Bool.not_true, Bool.not_false, Bool.and_true, Bool.and_false, Bool.true_and, Bool.false_and, gI_sI, gI_sL, gI_sA, gI_sM, gL_sI, gL_sL, gL_sA, gL_sM, aI_sI, aI_sL, aI_sA, aI_sM, aL_sI, aL_sL, aL_sA, aL_sM, Bnumber_0, Bnumber_7, Bnumber_22, Bnumber_43, Bnumber_51, Bnumber_58, Bnumber_61, Bnumber_87, Bnumber_105, Bnumber_109, Bnumber_110, Bnumber_120, Bnumber_130, Bnumber_141, Bnumber_146, Bnumber_147, Bnumber_164, Bnumber_174, Bnumber_178, Bnumber_184, Bnumber_188, Bnumber_189, Bnumber_193, Bnumber_203, Bnumber_209, Bnumber_217, Bnumber_221, Bnumber_229, Bnumber_233, Bnumber_234, Bnumber_235, oi_0, oi_1, oi_19, oi_2, oi_48, oi_6, oi_76, oi_8]; try dsimp only
        refine ⟨fun h7 => ?_, fun h7 => ?_⟩
        · refine hB _ _ _ _ _ (fun m8 hm8 => ?_)
          dsimp only [ugo, uwp, ust, uct, rfd, Bnumber, Nat.beq, lv_args, rlk, rs1, rs2, rdl, rky, rcd, rno, rsw, Value.category, List.filter, List.take, List.drop, List.reverse, List.reverseAux, List.cons_append, List.nil_append, Option.toList, Int.toNat, Int.reduceToNat, if_pos, if_neg, reduceIte, ↓reduceIte, Nat.reduceAdd, Nat.reduceEqDiff, Nat.reduceBEq, beq_self_eq_true, Bool.not_true, Bool.not_false, Bool.and_true, Bool.and_false, Bool.true_and, Bool.false_and, gI_sI, gI_sL, gI_sA, gI_sM, gL_sI, gL_sL, gL_sA, gL_sM, aI_sI, aI_sL, aI_sA, aI_sM, aL_sI, aL_sL, aL_sA, aL_sM, Bnumber_0, Bnumber_7, Bnumber_22, Bnumber_43, Bnumber_51, Bnumber_58, Bnumber_61, Bnumber_87, Bnumber_105, Bnumber_109, Bnumber_110, Bnumber_120, Bnumber_130, Bnumber_141, Bnumber_146, Bnumber_147, Bnumber_164, Bnumber_174, Bnumber_178, Bnumber_184, Bnumber_188, Bnumber_189, Bnumber_193, Bnumber_203, Bnumber_209, Bnumber_217, Bnumber_221, Bnumber_229, Bnumber_233, Bnumber_234, Bnumber_235, oi_0, oi_1, oi_19, oi_2, oi_48, oi_6, oi_76, oi_8]; try dsimp only
          refine hB _ _ _ _ _ (fun m9 hm9 => ?_)
          dsimp only [ugo, uwp, ust, uct, rfd, Bnumber, Nat.beq, lv_args, rlk, rs1, rs2, rdl, rky, rcd, rno, rsw, Value.category, List.filter, List.take, List.drop, List.reverse, List.reverseAux, List.cons_append, List.nil_append, Option.toList, Int.toNat, Int.reduceToNat, if_pos, if_neg, reduceIte, ↓reduceIte, Nat.reduceAdd, Nat.reduceEqDiff, Nat.reduceBEq, beq_self_eq_true, Bool.not_true, Bool.not_false, Bool.and_true, Bool.and_false, Bool.true_and, Bool.false_and, gI_sI, gI_sL, gI_sA, gI_sM, gL_sI, gL_sL, gL_sA, gL_sM, aI_sI, aI_sL, aI_sA, aI_sM, aL_sI, aL_sL, aL_sA, aL_sM, Bnumber_0, Bnumber_7, Bnumber_22, Bnumber_43, Bnumber_51, Bnumber_58, Bnumber_61, Bnumber_87, Bnumber_105, Bnumber_109, Bnumber_110, Bnumber_120, Bnumber_130, Bnumber_141, Bnumber_146, Bnumber_147, Bnumber_164, Bnumber_174, Bnumber_178, Bnumber_184, Bnumber_188, Bnumber_189, Bnumber_193, Bnumber_203, Bnumber_209, Bnumber_217, Bnumber_221, Bnumber_229, Bnumber_233, Bnumber_234, Bnumber_235, oi_0, oi_1, oi_19, oi_2, oi_48, oi_6, oi_76, oi_8]; try dsimp only
          intro p10
          refine hB _ _ _ _ _ (fun m11 hm11 => ?_)
          dsimp only [ugo, uwp, ust, uct, rfd, Bnumber, Nat.beq, lv_args, rlk, rs1, rs2, rdl, rky, rcd, rno, rsw, Value.category, List.filter, List.take, List.drop, List.reverse, List.reverseAux, List.cons_append, List.nil_append, Option.toList, Int.toNat, Int.reduceToNat, if_pos, if_neg, reduceIte, ↓reduceIte, Nat.reduceAdd, Nat.reduceEqDiff, Nat.reduceBEq, beq_self_eq_true, Bool.not_true, Bool.not_false, Bool.and_true, Bool.and_false, Bool.true_and, Bool.false_and, gI_sI, gI_sL, gI_sA, gI_sM, gL_sI, gL_sL, gL_sA, gL_sM, aI_sI, aI_sL, aI_sA, aI_sM, aL_sI, aL_sL, aL_sA, aL_sM, Bnumber_0, Bnumber_7, Bnumber_22, Bnumber_43, Bnumber_51, Bnumber_58, Bnumber_61, Bnumber_87, Bnumber_105, Bnumber_109, Bnumber_110, Bnumber_120, Bnumber_130, Bnumber_141, Bnumber_146, Bnumber_147, Bnumber_164, Bnumber_174, Bnumber_178, Bnumber_184, Bnumber_188, Bnumber_189, Bnumber_193, Bnumber_203, Bnumber_209, Bnumber_217, Bnumber_221, Bnumber_229, Bnumber_233, Bnumber_234, Bnumber_235, oi_0, oi_1, oi_19, oi_2, oi_48, oi_6, oi_76, oi_8]; try dsimp only
          unfold Qv_number
          try dsimp only
          rw [hE]
          refine ⟨rfl, (by repeat (first | exact LkR.rf | exact hL | refine LkR.i ?_ | refine LkR.m ?_ | refine LkR.a ?_ (by decide) | refine LkR.u3 ?_ | refine LkR.u6 ?_)), hs, ?_, ?_⟩
          · intro q
            dsimp only [Nat.beq, gI_sI, gI_sL, gI_sA, gI_sM, gL_sI, gL_sL, gL_sA, gL_sM, aI_sI, aI_sL, aI_sA, aI_sM, aL_sI, aL_sL, aL_sA, aL_sM]
            simp only [upd_eq]
            exact hk.1 q
          · intro q
            dsimp only [Nat.beq, gI_sI, gI_sL, gI_sA, gI_sM, gL_sI, gL_sL, gL_sA, gL_sM, aI_sI, aI_sL, aI_sA, aI_sM, aL_sI, aL_sL, aL_sA, aL_sM]
            simp only [upd_eq]
            exact hk.2 q
        · refine hB _ _ _ _ _ (fun m12 hm12 => ?_)
          dsimp only [ugo, uwp, ust, uct, rfd, Bnumber, Nat.beq, lv_args, rlk, rs1, rs2, rdl, rky, rcd, rno, rsw, Value.category, List.filter, List.take, List.drop, List.reverse, List.reverseAux, List.cons_append, List.nil_append, Option.toList, Int.toNat, Int.reduceToNat, if_pos, if_neg, reduceIte, ↓reduceIte, Nat.reduceAdd, Nat.reduceEqDiff, Nat.reduceBEq, beq_self_eq_true, Bool.not_true, Bool.not_false, Bool.and_true, Bool.and_false, Bool.true_and, Bool.false_and, gI_sI, gI_sL, gI_sA, gI_sM, gL_sI, gL_sL, gL_sA, gL_sM, aI_sI, aI_sL, aI_sA, aI_sM, aL_sI, aL_sL, aL_sA, aL_sM, Bnumber_0, Bnumber_7, Bnumber_22, Bnumber_43, Bnumber_51, Bnumber_58, Bnumber_61, Bnumber_87, Bnumber_105, Bnumber_109, Bnumber_110, Bnumber_120, Bnumber_130, Bnumber_141, Bnumber_146, Bnumber_147, Bnumber_164, Bnumber_174, Bnumber_178, Bnumber_184, Bnumber_188, Bnumber_189, Bnumber_193, Bnumber_203, Bnumber_209, Bnumber_217, Bnumber_221, Bnumber_229, Bnumber_233, Bnumber_234, Bnumber_235, oi_0, oi_1, oi_19, oi_2, oi_48, oi_6, oi_76, oi_8]; try dsimp only
          refine ⟨fun h13 => ?_, fun h13 => ?_⟩
          · refine hB _ _ _ _ _ (fun m14 hm14 => ?_)
            dsimp only [ugo, uwp, ust, uct, rfd, Bnumber, Nat.beq, lv_args, rlk, rs1, rs2, rdl, rky, rcd, rno, rsw, Value.category, List.filter, List.take, List.drop, List.reverse, List.reverseAux, List.cons_append, List.nil_append, Option.toList, Int.toNat, Int.reduceToNat, if_pos, if_neg, reduceIte, ↓reduceIte, Nat.reduceAdd, Nat.reduceEqDiff, Nat.reduceBEq, beq_self_eq_true, Bool.not_true, Bool.not_false, Bool.and_true, Bool.and_false, Bool.true_and, Bool.false_and, gI_sI, gI_sL, gI_sA, gI_sM, gL_sI, gL_sL, gL_sA, gL_sM, aI_sI, aI_sL, aI_sA, aI_sM, aL_sI, aL_sL, aL_sA, aL_sM, Bnumber_0, Bnumber_7, Bnumber_22, Bnumber_43, Bnumber_51, Bnumber_58, Bnumber_61, Bnumber_87, Bnumber_105, Bnumber_109, Bnumber_110, Bnumber_120, Bnumber_130, Bnumber_141, Bnumber_146, Bnumber_147, Bnumber_164, Bnumber_174, Bnumber_178, Bnumber_184, Bnumber_188, Bnumber_189, Bnumber_193, Bnumber_203, Bnumber_209, Bnumber_217, Bnumber_221, Bnumber_229, Bnumber_233, Bnumber_234, Bnumber_235, oi_0, oi_1, oi_19, oi_2, oi_48, oi_6, oi_76, oi_8]; try dsimp only
            refine hB _ _ _ _ _ (fun m15 hm15 => ?_)
            dsimp only [ugo, uwp, ust, uct, rfd, Bnumber, Nat.beq, lv_args, rlk, rs1, rs2, rdl, rky, rcd, rno, rsw, Value.category, List.filter, List.take, List.drop, List.reverse, List.reverseAux, List.cons_append, List.nil_append, Option.toList, Int.toNat, Int.reduceToNat, if_pos, if_neg, reduceIte, ↓reduceIte, Nat.reduceAdd, Nat.reduceEqDiff, Nat.reduceBEq, beq_self_eq_true, Bool.not_true, Bool.not_false, Bool.and_true, Bool.and_false, Bool.true_and, Bool.false_and, gI_sI, gI_sL, gI_sA, gI_sM, gL_sI, gL_sL, gL_sA, gL_sM, aI_sI, aI_sL, aI_sA, aI_sM, aL_sI, aL_sL, aL_sA, aL_sM, Bnumber_0, Bnumber_7, Bnumber_22, Bnumber_43, Bnumber_51, Bnumber_58, Bnumber_61, Bnumber_87, Bnumber_105, Bnumber_109, Bnumber_110, Bnumber_120, Bnumber_130, Bnumber_141, Bnumber_146, Bnumber_147, Bnumber_164, Bnumber_174, Bnumber_178, Bnumber_184, Bnumber_188, Bnumber_189, Bnumber_193, Bnumber_203, Bnumber_209, Bnumber_217, Bnumber_221, Bnumber_229, Bnumber_233, Bnumber_234, Bnumber_235, oi_0, oi_1, oi_19, oi_2, oi_48, oi_6, oi_76, oi_8]; try dsimp only
            intro p16
            refine hB _ _ _ _ _ (fun m17 hm17 => ?_)
            dsimp only [ugo, uwp, ust, uct, rfd, Bnumber, Nat.beq, lv_args, rlk, rs1, rs2, rdl, rky, rcd, rno, rsw, Value.category, List.filter, List.take, List.drop, List.reverse, List.reverseAux, List.cons_append, List.nil_append, Option.toList, Int.toNat, Int.reduceToNat, if_pos, if_neg, reduceIte, ↓reduceIte, Nat.reduceAdd, Nat.reduceEqDiff, Nat.reduceBEq, beq_self_eq_true, Bool.not_true, Bool.not_false, Bool.and_true, Bool.and_false, Bool.true_and, Bool.false_and, gI_sI, gI_sL, gI_sA, gI_sM, gL_sI, gL_sL, gL_sA, gL_sM, aI_sI, aI_sL, aI_sA, aI_sM, aL_sI, aL_sL, aL_sA, aL_sM, Bnumber_0, Bnumber_7, Bnumber_22, Bnumber_43, Bnumber_51, Bnumber_58, Bnumber_61, Bnumber_87, Bnumber_105, Bnumber_109, Bnumber_110, Bnumber_120, Bnumber_130, Bnumber_141, Bnumber_146, Bnumber_147, Bnumber_164, Bnumber_174, Bnumber_178, Bnumber_184, Bnumber_188, Bnumber_189, Bnumber_193, Bnumber_203, Bnumber_209, Bnumber_217, Bnumber_221, Bnumber_229, Bnumber_233, Bnumber_234, Bnumber_235, oi_0, oi_1, oi_19, oi_2, oi_48, oi_6, oi_76, oi_8]; try dsimp only
            unfold Qv_number
            try dsimp only
            rw [hE]
            refine ⟨rfl, (by repeat (first | exact LkR.rf | exact hL | refine LkR.i ?_ | refine LkR.m ?_ | refine LkR.a ?_ (by decide) | refine LkR.u3 ?_ | refine LkR.u6 ?_)), hs, ?_, ?_⟩
            · intro q
              dsimp only [Nat.beq, gI_sI, gI_sL, gI_sA, gI_sM, gL_sI, gL_sL, gL_sA, gL_sM, aI_sI, aI_sL, aI_sA, aI_sM, aL_sI, aL_sL, aL_sA, aL_sM]
              simp only [upd_eq]
              exact hk.1 q
            · intro q
              dsimp only [Nat.beq, gI_sI, gI_sL, gI_sA, gI_sM, gL_sI, gL_sL, gL_sA, gL_sM, aI_sI, aI_sL, aI_sA, aI_sM, aL_sI, aL_sL, aL_sA, aL_sM]
              simp only [upd_eq]
              exact hk.2 q
          · refine hB _ _ _ _ _ (fun m18 hm18 => ?_)
            dsimp only [ugo, uwp, ust, uct, rfd, Bnumber, Nat.beq, lv_args, rlk, rs1, rs2, rdl, rky, rcd, rno, rsw, Value.category, List.filter, List.take, List.drop, List.reverse, List.reverseAux, List.cons_append, List.nil_append, Option.toList, Int.toNat, Int.reduceToNat, if_pos, if_neg, reduceIte, ↓reduceIte, Nat.reduceAdd, Nat.reduceEqDiff, Nat.reduceBEq, beq_self_eq_true, Bool.not_true, Bool.not_false, Bool.and_true, Bool.and_false, Bool.true_and, Bool.false_and, gI_sI, gI_sL, gI_sA, gI_sM, gL_sI, gL_sL, gL_sA, gL_sM, aI_sI, aI_sL, aI_sA, aI_sM, aL_sI, aL_sL, aL_sA, aL_sM, Bnumber_0, Bnumber_7, Bnumber_22, Bnumber_43, Bnumber_51, Bnumber_58, Bnumber_61, Bnumber_87, Bnumber_105, Bnumber_109, Bnumber_110, Bnumber_120, Bnumber_130, Bnumber_141, Bnumber_146, Bnumber_147, Bnumber_164, Bnumber_174, Bnumber_178, Bnumber_184, Bnumber_188, Bnumber_189, Bnumber_193, Bnumber_203, Bnumber_209, Bnumber_217, Bnumber_221, Bnumber_229, Bnumber_233, Bnumber_234, Bnumber_235, oi_0, oi_1, oi_19, oi_2, oi_48, oi_6, oi_76, oi_8]; try dsimp only
            refine ⟨fun h19 => ?_, fun h19 => ?_⟩
            · refine hB _ _ _ _ _ (fun m20 hm20 => ?_)
              dsimp only [ugo, uwp, ust, uct, rfd, Bnumber, Nat.beq, lv_args, rlk, rs1, rs2, rdl, rky, rcd, rno, rsw, Value.category, List.filter, List.take, List.drop, List.reverse, List.reverseAux, List.cons_append, List.nil_append, Option.toList, Int.toNat, Int.reduceToNat, if_pos, if_neg, reduceIte, ↓reduceIte, Nat.reduceAdd, Nat.reduceEqDiff, Nat.reduceBEq, beq_self_eq_true, Bool.not_true, Bool.not_false, Bool.and_true, Bool.and_false, Bool.true_and, Bool.false_and, gI_sI, gI_sL, gI_sA, gI_sM, gL_sI, gL_sL, gL_sA, gL_sM, aI_sI, aI_sL, aI_sA, aI_sM, aL_sI, aL_sL, aL_sA, aL_sM, Bnumber_0, Bnumber_7, Bnumber_22, Bnumber_43, Bnumber_51, Bnumber_58, Bnumber_61, Bnumber_87, Bnumber_105, Bnumber_109, Bnumber_110, Bnumber_120, Bnumber_130, Bnumber_141, Bnumber_146, Bnumber_147, Bnumber_164, Bnumber_174, Bnumber_178, Bnumber_184, Bnumber_188, Bnumber_189, Bnumber_193, Bnumber_203, Bnumber_209, Bnumber_217, Bnumber_221, Bnumber_229, Bnumber_233, Bnumber_234, Bnumber_235, oi_0, oi_1, oi_19, oi_2, oi_48, oi_6, oi_76, oi_8]; try dsimp only
              refine ⟨fun h21 => ?_, fun h21 => ?_⟩
              · refine hB _ _ _ _ _ (fun m22 hm22 => ?_)
                dsimp only [ugo, uwp, ust, uct, rfd, Bnumber, Nat.beq, lv_args, rlk, rs1, rs2, rdl, rky, rcd, rno, rsw, Value.category, List.filter, List.take, List.drop, List.reverse, List.reverseAux, List.cons_append, List.nil_append, Option.toList, Int.toNat, Int.reduceToNat, if_pos, if_neg, reduceIte, ↓reduceIte, Nat.reduceAdd, Nat.reduceEqDiff, Nat.reduceBEq, beq_self_eq_true, Bool.not_true, Bool.not_false, Bool.and_true, Bool.and_false, Bool.true_and, Bool.false_and, gI_sI, gI_sL, gI_sA, gI_sM, gL_sI, gL_sL, gL_sA, gL_sM, aI_sI, aI_sL, aI_sA, aI_sM, aL_sI, aL_sL, aL_sA, aL_sM, Bnumber_0, Bnumber_7, Bnumber_22, Bnumber_43, Bnumber_51, Bnumber_58, Bnumber_61, Bnumber_87, Bnumber_105, Bnumber_109, Bnumber_110, Bnumber_120, Bnumber_130, Bnumber_141, Bnumber_146, Bnumber_147, Bnumber_164, Bnumber_174, Bnumber_178, Bnumber_184, Bnumber_188, Bnumber_189, Bnumber_193, Bnumber_203, Bnumber_209, Bnumber_217, Bnumber_221, Bnumber_229, Bnumber_233, Bnumber_234, Bnumber_235, oi_0, oi_1, oi_19, oi_2, oi_48, oi_6, oi_76, oi_8]; try dsimp only
                refine hB _ _ _ _ _ (fun m23 hm23 => ?_)
                dsimp only [ugo, uwp, ust, uct, rfd, Bnumber, Nat.beq, lv_args, rlk, rs1, rs2, rdl, rky, rcd, rno, rsw, Value.category, List.filter, List.take, List.drop, List.reverse, List.reverseAux, List.cons_append, List.nil_append, Option.toList, Int.toNat, Int.reduceToNat, if_pos, if_neg, reduceIte, ↓reduceIte, Nat.reduceAdd, Nat.reduceEqDiff, Nat.reduceBEq, beq_self_eq_true, Bool.not_true, Bool.not_false, Bool.and_true, Bool.and_false, Bool.true_and, Bool.false_and, gI_sI, gI_sL, gI_sA, gI_sM, gL_sI, gL_sL, gL_sA, gL_sM, aI_sI, aI_sL, aI_sA, aI_sM, aL_sI, aL_sL, aL_sA, aL_sM, Bnumber_0, Bnumber_7, Bnumber_22, Bnumber_43, Bnumber_51, Bnumber_58, Bnumber_61, Bnumber_87, Bnumber_105, Bnumber_109, Bnumber_110, Bnumber_120, Bnumber_130, Bnumber_141, Bnumber_146, Bnumber_147, Bnumber_164, Bnumber_174, Bnumber_178, Bnumber_184, Bnumber_188, Bnumber_189, Bnumber_193, Bnumber_203, Bnumber_209, Bnumber_217, Bnumber_221, Bnumber_229, Bnumber_233, Bnumber_234, Bnumber_235, oi_0, oi_1, oi_19, oi_2, oi_48, oi_6, oi_76, oi_8]; try dsimp only
                intro p24
                refine hB _ _ _ _ _ (fun m25 hm25 => ?_)
                dsimp only [ugo, uwp, ust, uct, rfd, Bnumber, Nat.beq, lv_args, rlk, rs1, rs2, rdl, rky, rcd, rno, rsw, Value.category, List.filter, List.take, List.drop, List.reverse, List.reverseAux, List.cons_append, List.nil_append, Option.toList, Int.toNat, Int.reduceToNat, if_pos, if_neg, reduceIte, ↓reduceIte, Nat.reduceAdd, Nat.reduceEqDiff, Nat.reduceBEq, beq_self_eq_true, Bool.not_true, Bool.not_false, Bool.and_true, Bool.and_false, Bool.true_and, Bool.false_and, gI_sI, gI_sL, gI_sA, gI_sM, gL_sI, gL_sL, gL_sA, gL_sM, aI_sI, aI_sL, aI_sA, aI_sM, aL_sI, aL_sL, aL_sA, aL_sM, Bnumber_0, Bnumber_7, Bnumber_22, Bnumber_43, Bnumber_51, Bnumber_58, Bnumber_61, Bnumber_87, Bnumber_105, Bnumber_109, Bnumber_110, Bnumber_120, Bnumber_130, Bnumber_141, Bnumber_146, Bnumber_147, Bnumber_164, Bnumber_174, Bnumber_178, Bnumber_184, Bnumber_188, Bnumber_189, Bnumber_193, Bnumber_203, Bnumber_209, Bnumber_217, Bnumber_221, Bnumber_229, Bnumber_233, Bnumber_234, Bnumber_235, oi_0, oi_1, oi_19, oi_2, oi_48, oi_6, oi_76, oi_8]; try dsimp only
                unfold Qv_number
                try dsimp only
                rw [hE]
                refine ⟨rfl, (by repeat (first | exact LkR.rf | exact hL | refine LkR.i ?_ | refine LkR.m ?_ | refine LkR.a ?_ (by decide) | refine LkR.u3 ?_ | refine LkR.u6 ?_)), hs, ?_, ?_⟩
                · intro q
                  dsimp only [Nat.beq, gI_sI, gI_sL, gI_sA, gI_sM, gL_sI, gL_sL, gL_sA, gL_sM, aI_sI, aI_sL, aI_sA, aI_sM, aL_sI, aL_sL, aL_sA, aL_sM]
                  simp only [upd_eq]
                  exact hk.1 q
                · intro q
                  dsimp only [Nat.beq, gI_sI, gI_sL, gI_sA, gI_sM, gL_sI, gL_sL, gL_sA, gL_sM, aI_sI, aI_sL, aI_sA, aI_sM, aL_sI, aL_sL, aL_sA, aL_sM]
                  simp only [upd_eq]
                  exact hk.2 q
              · refine hB _ _ _ _ _ (fun m26 hm26 => ?_)
                dsimp only [ugo, uwp, ust, uct, rfd, Bnumber, Nat.beq, lv_args, rlk, rs1, rs2, rdl, rky, rcd, rno, rsw, Value.category, List.filter, List.take, List.drop, List.reverse, List.reverseAux, List.cons_append, List.nil_append, Option.toList, Int.toNat, Int.reduceToNat, if_pos, if_neg, reduceIte, ↓reduceIte, Nat.reduceAdd, Nat.reduceEqDiff, Nat.reduceBEq, beq_self_eq_true, Bool.not_true, Bool.not_false, Bool.and_true, Bool.and_false, Bool.true_and, Bool.false_and, gI_sI, gI_sL, gI_sA, gI_sM, gL_sI, gL_sL, gL_sA, gL_sM, aI_sI, aI_sL, aI_sA, aI_sM, aL_sI, aL_sL, aL_sA, aL_sM, Bnumber_0, Bnumber_7, Bnumber_22, Bnumber_43, Bnumber_51, Bnumber_58, Bnumber_61, Bnumber_87, Bnumber_105, Bnumber_109, Bnumber_110, Bnumber_120, Bnumber_130, Bnumber_141, Bnumber_146, Bnumber_147, Bnumber_164, Bnumber_174, Bnumber_178, Bnumber_184, Bnumber_188, Bnumber_189, Bnumber_193, Bnumber_203, Bnumber_209, Bnumber_217, Bnumber_221, Bnumber_229, Bnumber_233, Bnumber_234, Bnumber_235, oi_0, oi_1, oi_19, oi_2, oi_48, oi_6, oi_76, oi_8]; try dsimp only
                refine hB _ _ _ _ _ (fun m27 hm27 => ?_)
                dsimp only [ugo, uwp, ust, uct, rfd, Bnumber, Nat.beq, lv_args, rlk, rs1, rs2, rdl, rky, rcd, rno, rsw, Value.category, List.filter, List.take, List.drop, List.reverse, List.reverseAux, List.cons_append, List.nil_append, Option.toList, Int.toNat, Int.reduceToNat, if_pos, if_neg, reduceIte, ↓reduceIte, Nat.reduceAdd, Nat.reduceEqDiff, Nat.reduceBEq, beq_self_eq_true, Bool.not_true, Bool.not_false, Bool.and_true, Bool.and_false, Bool.true_and, Bool.false_and, gI_sI, gI_sL, gI_sA, gI_sM, gL_sI, gL_sL, gL_sA, gL_sM, aI_sI, aI_sL, aI_sA, aI_sM, aL_sI, aL_sL, aL_sA, aL_sM, Bnumber_0, Bnumber_7, Bnumber_22, Bnumber_43, Bnumber_51, Bnumber_58, Bnumber_61, Bnumber_87, Bnumber_105, Bnumber_109, Bnumber_110, Bnumber_120, Bnumber_130, Bnumber_141, Bnumber_146, Bnumber_147, Bnumber_164, Bnumber_174, Bnumber_178, Bnumber_184, Bnumber_188, Bnumber_189, Bnumber_193, Bnumber_203, Bnumber_209, Bnumber_217, Bnumber_221, Bnumber_229, Bnumber_233, Bnumber_234, Bnumber_235, oi_0, oi_1, oi_19, oi_2, oi_48, oi_6, oi_76, oi_8]; try dsimp only
                intro p28
                refine hB _ _ _ _ _ (fun m29 hm29 => ?_)
                dsimp only [ugo, uwp, ust, uct, rfd, Bnumber, Nat.beq, lv_args, rlk, rs1, rs2, rdl, rky, rcd, rno, rsw, Value.category, List.filter, List.take, List.drop, List.reverse, List.reverseAux, List.cons_append, List.nil_append, Option.toList, Int.toNat, Int.reduceToNat, if_pos, if_neg, reduceIte, ↓reduceIte, Nat.reduceAdd, Nat.reduceEqDiff, Nat.reduceBEq, beq_self_eq_true, Bool.not_true, Bool.not_false, Bool.and_true, Bool.and_false, Bool.true_and, Bool.false_and, gI_sI, gI_sL, gI_sA, gI_sM, gL_sI, gL_sL, gL_sA, gL_sM, aI_sI, aI_sL, aI_sA, aI_sM, aL_sI, aL_sL, aL_sA, aL_sM, Bnumber_0, Bnumber_7, Bnumber_22, Bnumber_43, Bnumber_51, Bnumber_58, Bnumber_61, Bnumber_87, Bnumber_105, Bnumber_109, Bnumber_110, Bnumber_120, Bnumber_130, Bnumber_141, Bnumber_146, Bnumber_147, Bnumber_164, Bnumber_174, Bnumber_178, Bnumber_184, Bnumber_188, Bnumber_189, Bnumber_193, Bnumber_203, Bnumber_209, Bnumber_217, Bnumber_221, Bnumber_229, Bnumber_233, Bnumber_234, Bnumber_235, oi_0, oi_1, oi_19, oi_2, oi_48, oi_6, oi_76, oi_8]; try dsimp only
                unfold Qv_number
                try dsimp only
                rw [hE]
                refine ⟨rfl, (by repeat (first | exact LkR.rf | exact hL | refine LkR.i ?_ | refine LkR.m ?_ | refine LkR.a ?_ (by decide) | refine LkR.u3 ?_ | refine LkR.u6 ?_)), hs, ?_, ?_⟩
                · intro q
                  dsimp only [Nat.beq, gI_sI, gI_sL, gI_sA, gI_sM, gL_sI, gL_sL, gL_sA, gL_sM, aI_sI, aI_sL, aI_sA, aI_sM, aL_sI, aL_sL, aL_sA, aL_sM]
                  simp only [upd_eq]
                  exact hk.1 q
                · intro q
                  dsimp only [Nat.beq, gI_sI, gI_sL, gI_sA, gI_sM, gL_sI, gL_sL, gL_sA, gL_sM, aI_sI, aI_sL, aI_sA, aI_sM, aL_sI, aL_sL, aL_sA, aL_sM]
                  simp only [upd_eq]
                  exact hk.2 q
            · refine hB _ _ _ _ _ (fun m30 hm30 => ?_)
              dsimp only [ugo, uwp, ust, uct, rfd, Bnumber, Nat.beq, lv_args, rlk, rs1, rs2, rdl, rky, rcd, rno, rsw, Value.category, List.filter, List.take, List.drop, List.reverse, List.reverseAux, List.cons_append, List.nil_append, Option.toList, Int.toNat, Int.reduceToNat, if_pos, if_neg, reduceIte, ↓reduceIte, Nat.reduceAdd, Nat.reduceEqDiff, Nat.reduceBEq, beq_self_eq_true, Bool.not_true, Bool.not_false, Bool.and_true, Bool.and_false, Bool.true_and, Bool.false_and, gI_sI, gI_sL, gI_sA, gI_sM, gL_sI, gL_sL, gL_sA, gL_sM, aI_sI, aI_sL, aI_sA, aI_sM, aL_sI, aL_sL, aL_sA, aL_sM, Bnumber_0, Bnumber_7, Bnumber_22, Bnumber_43, Bnumber_51, Bnumber_58, Bnumber_61, Bnumber_87, Bnumber_105, Bnumber_109, Bnumber_110, Bnumber_120, Bnumber_130, Bnumber_141, Bnumber_146, Bnumber_147, Bnumber_164, Bnumber_174, Bnumber_178, Bnumber_184, Bnumber_188, Bnumber_189, Bnumber_193, Bnumber_203, Bnumber_209, Bnumber_217, Bnumber_221, Bnumber_229, Bnumber_233, Bnumber_234, Bnumber_235, oi_0, oi_1, oi_19, oi_2, oi_48, oi_6, oi_76, oi_8]; try dsimp only
              refine hB _ _ _ _ _ (fun m31 hm31 => ?_)
              dsimp only [ugo, uwp, ust, uct, rfd, Bnumber, Nat.beq, lv_args, rlk, rs1, rs2, rdl, rky, rcd, rno, rsw, Value.category, List.filter, List.take, List.drop, List.reverse, List.reverseAux, List.cons_append, List.nil_append, Option.toList, Int.toNat, Int.reduceToNat, if_pos, if_neg, reduceIte, ↓reduceIte, Nat.reduceAdd, Nat.reduceEqDiff, Nat.reduceBEq, beq_self_eq_true, Bool.not_true, Bool.not_false, Bool.and_true, Bool.and_false, Bool.true_and, Bool.false_and, gI_sI, gI_sL, gI_sA, gI_sM, gL_sI, gL_sL, gL_sA, gL_sM, aI_sI, aI_sL, aI_sA, aI_sM, aL_sI, aL_sL, aL_sA, aL_sM, Bnumber_0, Bnumber_7, Bnumber_22, Bnumber_43, Bnumber_51, Bnumber_58, Bnumber_61, Bnumber_87, Bnumber_105, Bnumber_109, Bnumber_110, Bnumber_120, Bnumber_130, Bnumber_141, Bnumber_146, Bnumber_147, Bnumber_164, Bnumber_174, Bnumber_178, Bnumber_184, Bnumber_188, Bnumber_189, Bnumber_193, Bnumber_203, Bnumber_209, Bnumber_217, Bnumber_221, Bnumber_229, Bnumber_233, Bnumber_234, Bnumber_235, oi_0, oi_1, oi_19, oi_2, oi_48, oi_6, oi_76, oi_8]; try dsimp only
              intro p32
              refine hB _ _ _ _ _ (fun m33 hm33 => ?_)
              dsimp only [ugo, uwp, ust, uct, rfd, Bnumber, Nat.beq, lv_args, rlk, rs1, rs2, rdl, rky, rcd, rno, rsw, Value.category, List.filter, List.take, List.drop, List.reverse, List.reverseAux, List.cons_append, List.nil_append, Option.toList, Int.toNat, Int.reduceToNat, if_pos, if_neg, reduceIte, ↓reduceIte, Nat.reduceAdd, Nat.reduceEqDiff, Nat.reduceBEq, beq_self_eq_true, Bool.not_true, Bool.not_false, Bool.and_true, Bool.and_false, Bool.true_and, Bool.false_and, gI_sI, gI_sL, gI_sA, gI_sM, gL_sI, gL_sL, gL_sA, gL_sM, aI_sI, aI_sL, aI_sA, aI_sM, aL_sI, aL_sL, aL_sA, aL_sM, Bnumber_0, Bnumber_7, Bnumber_22, Bnumber_43, Bnumber_51, Bnumber_58, Bnumber_61, Bnumber_87, Bnumber_105, Bnumber_109, Bnumber_110, Bnumber_120, Bnumber_130, Bnumber_141, Bnumber_146, Bnumber_147, Bnumber_164, Bnumber_174, Bnumber_178, Bnumber_184, Bnumber_188, Bnumber_189, Bnumber_193, Bnumber_203, Bnumber_209, Bnumber_217, Bnumber_221, Bnumber_229, Bnumber_233, Bnumber_234, Bnumber_235, oi_0, oi_1, oi_19, oi_2, oi_48, oi_6, oi_76, oi_8]; try dsimp only
              unfold Qv_number
              try dsimp only
              rw [hE]
              refine ⟨rfl, (by repeat (first | exact LkR.rf | exact hL | refine LkR.i ?_ | refine LkR.m ?_ | refine LkR.a ?_ (by decide) | refine LkR.u3 ?_ | refine LkR.u6 ?_)), hs, ?_, ?_⟩
              · intro q
                dsimp only [Nat.beq, gI_sI, gI_sL, gI_sA, gI_sM, gL_sI, gL_sL, gL_sA, gL_sM, aI_sI, aI_sL, aI_sA, aI_sM, aL_sI, aL_sL, aL_sA, aL_sM]
                simp only [upd_eq]
                exact hk.1 q
              · intro q
                dsimp only [Nat.beq, gI_sI, gI_sL, gI_sA, gI_sM, gL_sI, gL_sL, gL_sA, gL_sM, aI_sI, aI_sL, aI_sA, aI_sM, aL_sI, aL_sL, aL_sA, aL_sM]
                simp only [upd_eq]
                exact hk.2 q
      · refine hB _ _ _ _ _ (fun m34 hm34 => ?_)
        dsimp only [ugo, uwp, ust, uct, rfd, Bnumber, Nat.beq, lv_args, rlk, rs1, rs2, rdl, rky, rcd, rno, rsw, Value.category, List.filter, List.take, List.drop, List.reverse, List.reverseAux, List.cons_append, List.nil_append, Option.toList, Int.toNat, Int.reduceToNat, if_pos, if_neg, reduceIte, ↓reduceIte, Nat.reduceAdd, Nat.reduceEqDiff, Nat.reduceBEq, beq_self_eq_true, Bool.not_true, Bool.not_false, Bool.and_true, Bool.and_false, Bool.true_and, Bool.false_and, gI_sI, gI_sL, gI_sA, gI_sM, gL_sI, gL_sL, gL_sA, gL_sM, aI_sI, aI_sL, aI_sA, aI_sM, aL_sI, aL_sL, aL_sA, aL_sM, Bnumber_0, Bnumber_7, Bnumber_22, Bnumber_43, Bnumber_51, Bnumber_58, Bnumber_61, Bnumber_87, Bnumber_105, Bnumber_109, Bnumber_110, Bnumber_120, Bnumber_130, Bnumber_141, Bnumber_146, Bnumber_147, Bnumber_164, Bnumber_174, Bnumber_178, Bnumber_184, Bnumber_188, Bnumber_189, Bnumber_193, Bnumber_203, Bnumber_209, Bnumber_217, Bnumber_221, Bnumber_229, Bnumber_233, Bnumber_234, Bnumber_235, oi_0, oi_1, oi_19, oi_2, oi_48, oi_6, oi_76, oi_8]; try dsimp only
        refine ⟨fun h35 => ?_, fun h35 => ?_⟩
        · refine hB _ _ _ _ _ (fun m36 hm36 => ?_)
          dsimp only [ugo, uwp, ust, uct, rfd, Bnumber, Nat.beq, lv_args, rlk, rs1, rs2, rdl, rky, rcd, rno, rsw, Value.category, List.filter, List.take, List.drop, List.reverse, List.reverseAux, List.cons_append, List.nil_append, Option.toList, Int.toNat, Int.reduceToNat, if_pos, if_neg, reduceIte, ↓reduceIte, Nat.reduceAdd, Nat.reduceEqDiff, Nat.reduceBEq, beq_self_eq_true, Bool.not_true, Bool.not_false, Bool.and_true, Bool.and_false, Bool.true_and, Bool.false_and, gI_sI, gI_sL, gI_sA, gI_sM, gL_sI, gL_sL, gL_sA, gL_sM, aI_sI, aI_sL, aI_sA, aI_sM, aL_sI, aL_sL, aL_sA, aL_sM, Bnumber_0, Bnumber_7, Bnumber_22, Bnumber_43, Bnumber_51, Bnumber_58, Bnumber_61, Bnumber_87, Bnumber_105, Bnumber_109, Bnumber_110, Bnumber_120, Bnumber_130, Bnumber_141, Bnumber_146, Bnumber_147, Bnumber_164, Bnumber_174, Bnumber_178, Bnumber_184, Bnumber_188, Bnumber_189, Bnumber_193, Bnumber_203, Bnumber_209, Bnumber_217, Bnumber_221, Bnumber_229, Bnumber_233, Bnumber_234, Bnumber_235, oi_0, oi_1, oi_19, oi_2, oi_48, oi_6, oi_76, oi_8]; try dsimp only
          refine ⟨fun h37 => ?_, fun h37 => ?_⟩
          · refine hB _ _ _ _ _ (fun m38 hm38 => ?_)
            dsimp only [ugo, uwp, ust, uct, rfd, Bnumber, Nat.beq, lv_args, rlk, rs1, rs2, rdl, rky, rcd, rno, rsw, Value.category, List.filter, List.take, List.drop, List.reverse, List.reverseAux, List.cons_append, List.nil_append, Option.toList, Int.toNat, Int.reduceToNat, if_pos, if_neg, reduceIte, ↓reduceIte, Nat.reduceAdd, Nat.reduceEqDiff, Nat.reduceBEq, beq_self_eq_true, Bool.not_true, Bool.not_false, Bool.and_true, Bool.and_false, Bool.true_and, Bool.false_and, gI_sI, gI_sL, gI_sA, gI_sM, gL_sI, gL_sL, gL_sA, gL_sM, aI_sI, aI_sL, aI_sA, aI_sM, aL_sI, aL_sL, aL_sA, aL_sM, Bnumber_0, Bnumber_7, Bnumber_22, Bnumber_43, Bnumber_51, Bnumber_58, Bnumber_61, Bnumber_87, Bnumber_105, Bnumber_109, Bnumber_110, Bnumber_120, Bnumber_130, Bnumber_141, Bnumber_146, Bnumber_147, Bnumber_164, Bnumber_174, Bnumber_178, Bnumber_184, Bnumber_188, Bnumber_189, Bnumber_193, Bnumber_203, Bnumber_209, Bnumber_217, Bnumber_221, Bnumber_229, Bnumber_233, Bnumber_234, Bnumber_235, oi_0, oi_1, oi_19, oi_2, oi_48, oi_6, oi_76, oi_8]; try dsimp only
            refine hB _ _ _ _ _ (fun m39 hm39 => ?_)
            dsimp only [ugo, uwp, ust, uct, rfd, Bnumber, Nat.beq, lv_args, rlk, rs1, rs2, rdl, rky, rcd, rno, rsw, Value.category, List.filter, List.take, List.drop, List.reverse, List.reverseAux, List.cons_append, List.nil_append, Option.toList, Int.toNat, Int.reduceToNat, if_pos, if_neg, reduceIte, ↓reduceIte, Nat.reduceAdd, Nat.reduceEqDiff, Nat.reduceBEq, beq_self_eq_true, Bool.not_true, Bool.not_false, Bool.and_true, Bool.and_false, Bool.true_and, Bool.false_and, gI_sI, gI_sL, gI_sA, gI_sM, gL_sI, gL_sL, gL_sA, gL_sM, aI_sI, aI_sL, aI_sA, aI_sM, aL_sI, aL_sL, aL_sA, aL_sM, Bnumber_0, Bnumber_7, Bnumber_22, Bnumber_43, Bnumber_51, Bnumber_58, Bnumber_61, Bnumber_87, Bnumber_105, Bnumber_109, Bnumber_110, Bnumber_120, Bnumber_130, Bnumber_141, Bnumber_146, Bnumber_147, Bnumber_164, Bnumber_174, Bnumber_178, Bnumber_184, Bnumber_188, Bnumber_189, Bnumber_193, Bnumber_203, Bnumber_209, Bnumber_217, Bnumber_221, Bnumber_229, Bnumber_233, Bnumber_234, Bnumber_235, oi_0, oi_1, oi_19, oi_2, oi_48, oi_6, oi_76, oi_8]; try dsimp only
            intro p40
            refine hB _ _ _ _ _ (fun m41 hm41 => ?_)
            dsimp only [ugo, uwp, ust, uct, rfd, Bnumber, Nat.beq, lv_args, rlk, rs1, rs2, rdl, rky, rcd, rno, rsw, Value.category, List.filter, List.take, List.drop, List.reverse, List.reverseAux, List.cons_append, List.nil_append, Option.toList, Int.toNat, Int.reduceToNat, if_pos, if_neg, reduceIte, ↓reduceIte, Nat.reduceAdd, Nat.reduceEqDiff, Nat.reduceBEq, beq_self_eq_true, Bool.not_true, Bool.not_false, Bool.and_true, Bool.and_false, Bool.true_and, Bool.false_and, gI_sI, gI_sL, gI_sA, gI_sM, gL_sI, gL_sL, gL_sA, gL_sM, aI_sI, aI_sL, aI_sA, aI_sM, aL_sI, aL_sL, aL_sA, aL_sM, Bnumber_0, Bnumber_7, Bnumber_22, Bnumber_43, Bnumber_51, Bnumber_58, Bnumber_61, Bnumber_87, Bnumber_105, Bnumber_109, Bnumber_110, Bnumber_120, Bnumber_130, Bnumber_141, Bnumber_146, Bnumber_147, Bnumber_164, Bnumber_174, Bnumber_178, Bnumber_184, Bnumber_188, Bnumber_189, Bnumber_193, Bnumber_203, Bnumber_209, Bnumber_217, Bnumber_221, Bnumber_229, Bnumber_233, Bnumber_234, Bnumber_235, oi_0, oi_1, oi_19, oi_2, oi_48, oi_6, oi_76, oi_8]; try dsimp only
            unfold Qv_number
            try dsimp only
            rw [hE]
            refine ⟨rfl, (by repeat (first | exact LkR.rf | exact hL | refine LkR.i ?_ | refine LkR.m ?_ | refine LkR.a ?_ (by decide) | refine LkR.u3 ?_ | refine LkR.u6 ?_)), hs, ?_, ?_⟩
            · intro q
              dsimp only [Nat.beq, gI_sI, gI_sL, gI_sA, gI_sM, gL_sI, gL_sL, gL_sA, gL_sM, aI_sI, aI_sL, aI_sA, aI_sM, aL_sI, aL_sL, aL_sA, aL_sM]
              simp only [upd_eq]
              exact hk.1 q
            · intro q
              dsimp only [Nat.beq, gI_sI, gI_sL, gI_sA, gI_sM, gL_sI, gL_sL, gL_sA, gL_sM, aI_sI, aI_sL, aI_sA, aI_sM, aL_sI, aL_sL, aL_sA, aL_sM]
              simp only [upd_eq]
              exact hk.2 q
          · refine hB _ _ _ _ _ (fun m42 hm42 => ?_)
            dsimp only [ugo, uwp, ust, uct, rfd, Bnumber, Nat.beq, lv_args, rlk, rs1, rs2, rdl, rky, rcd, rno, rsw, Value.category, List.filter, List.take, List.drop, List.reverse, List.reverseAux, List.cons_append, List.nil_append, Option.toList, Int.toNat, Int.reduceToNat, if_pos, if_neg, reduceIte, ↓reduceIte, Nat.reduceAdd, Nat.reduceEqDiff, Nat.reduceBEq, beq_self_eq_true, Bool.not_true, Bool.not_false, Bool.and_true, Bool.and_false, Bool.true_and, Bool.false_and, gI_sI, gI_sL, gI_sA, gI_sM, gL_sI, gL_sL, gL_sA, gL_sM, aI_sI, aI_sL, aI_sA, aI_sM, aL_sI, aL_sL, aL_sA, aL_sM, Bnumber_0, Bnumber_7, Bnumber_22, Bnumber_43, Bnumber_51, Bnumber_58, Bnumber_61, Bnumber_87, Bnumber_105, Bnumber_109, Bnumber_110, Bnumber_120, Bnumber_130, Bnumber_141, Bnumber_146, Bnumber_147, Bnumber_164, Bnumber_174, Bnumber_178, Bnumber_184, Bnumber_188, Bnumber_189, Bnumber_193, Bnumber_203, Bnumber_209, Bnumber_217, Bnumber_221, Bnumber_229, Bnumber_233, Bnumber_234, Bnumber_235, oi_0, oi_1, oi_19, oi_2, oi_48, oi_6, oi_76, oi_8]; try dsimp only
            refine hB _ _ _ _ _ (fun m43 hm43 => ?_)
            dsimp only [ugo, uwp, ust, uct, rfd, Bnumber, Nat.beq, lv_args, rlk, rs1, rs2, rdl, rky, rcd, rno, rsw, Value.category, List.filter, List.take, List.drop, List.reverse, List.reverseAux, List.cons_append, List.nil_append, Option.toList, Int.toNat, Int.reduceToNat, if_pos, if_neg, reduceIte, ↓reduceIte, Nat.reduceAdd, Nat.reduceEqDiff, Nat.reduceBEq, beq_self_eq_true, Bool.not_true, Bool.not_false, Bool.and_true, Bool.and_false, Bool.true_and, Bool.false_and, gI_sI, gI_sL, gI_sA, gI_sM, gL_sI, gL_sL, gL_sA, gL_sM, aI_sI, aI_sL, aI_sA, aI_sM, aL_sI, aL_sL, aL_sA, aL_sM, Bnumber_0, Bnumber_7, Bnumber_22, Bnumber_43, Bnumber_51, Bnumber_58, Bnumber_61, Bnumber_87, Bnumber_105, Bnumber_109, Bnumber_110, Bnumber_120, Bnumber_130, Bnumber_141, Bnumber_146, Bnumber_147, Bnumber_164, Bnumber_174, Bnumber_178, Bnumber_184, Bnumber_188, Bnumber_189, Bnumber_193, Bnumber_203, Bnumber_209, Bnumber_217, Bnumber_221, Bnumber_229, Bnumber_233, Bnumber_234, Bnumber_235, oi_0, oi_1, oi_19, oi_2, oi_48, oi_6, oi_76, oi_8]; try dsimp only
            intro p44
            refine hB _ _ _ _ _ (fun m45 hm45 => ?_)
            dsimp only [ugo, uwp, ust, uct, rfd, Bnumber, Nat.beq, lv_args, rlk, rs1, rs2, rdl, rky, rcd, rno, rsw, Value.category, List.filter, List.take, List.drop, List.reverse, List.reverseAux, List.cons_append, List.nil_append, Option.toList, Int.toNat, Int.reduceToNat, if_pos, if_neg, reduceIte, ↓reduceIte, Nat.reduceAdd, Nat.reduceEqDiff, Nat.reduceBEq, beq_self_eq_true, Bool.not_true, Bool.not_false, Bool.and_true, Bool.and_false, Bool.true_and, Bool.false_and, gI_sI, gI_sL, gI_sA, gI_sM, gL_sI, gL_sL, gL_sA, gL_sM, aI_sI, aI_sL, aI_sA, aI_sM, aL_sI, aL_sL, aL_sA, aL_sM, Bnumber_0, Bnumber_7, Bnumber_22, Bnumber_43, Bnumber_51, Bnumber_58, Bnumber_61, Bnumber_87, Bnumber_105, Bnumber_109, Bnumber_110, Bnumber_120, Bnumber_130, Bnumber_141, Bnumber_146, Bnumber_147, Bnumber_164, Bnumber_174, Bnumber_178, Bnumber_184, Bnumber_188, Bnumber_189, Bnumber_193, Bnumber_203, Bnumber_209, Bnumber_217, Bnumber_221, Bnumber_229, Bnumber_233, Bnumber_234, Bnumber_235, oi_0, oi_1, oi_19, oi_2, oi_48, oi_6, oi_76, oi_8]; try dsimp only
            unfold Qv_number
            try dsimp only
            rw [hE]
            refine ⟨rfl, (by repeat (first | exact LkR.rf | exact hL | refine LkR.i ?_ | refine LkR.m ?_ | refine LkR.a ?_ (by decide) | refine LkR.u3 ?_ | refine LkR.u6 ?_)), hs, ?_, ?_⟩
            · intro q
              dsimp only [Nat.beq, gI_sI, gI_sL, gI_sA, gI_sM, gL_sI, gL_sL, gL_sA, gL_sM, aI_sI, aI_sL, aI_sA, aI_sM, aL_sI, aL_sL, aL_sA, aL_sM]
              simp only [upd_eq]
              exact hk.1 q
            · intro q
              dsimp only [Nat.beq, gI_sI, gI_sL, gI_sA, gI_sM, gL_sI, gL_sL, gL_sA, gL_sM, aI_sI, aI_sL, aI_sA, aI_sM, aL_sI, aL_sL, aL_sA, aL_sM]
              simp only [upd_eq]
              exact hk.2 q
        · refine hB _ _ _ _ _ (fun m46 hm46 => ?_)
          dsimp only [ugo, uwp, ust, uct, rfd, Bnumber, Nat.beq, lv_args, rlk, rs1, rs2, rdl, rky, rcd, rno, rsw, Value.category, List.filter, List.take, List.drop, List.reverse, List.reverseAux, List.cons_append, List.nil_append, Option.toList, Int.toNat, Int.reduceToNat, if_pos, if_neg, reduceIte, ↓reduceIte, Nat.reduceAdd, Nat.reduceEqDiff, Nat.reduceBEq, beq_self_eq_true, Bool.not_true, Bool.not_false, Bool.and_true, Bool.and_false, Bool.true_and, Bool.false_and, gI_sI, gI_sL, gI_sA, gI_sM, gL_sI, gL_sL, gL_sA, gL_sM, aI_sI, aI_sL, aI_sA, aI_sM, aL_sI, aL_sL, aL_sA, aL_sM, Bnumber_0, Bnumber_7, Bnumber_22, Bnumber_43, Bnumber_51, Bnumber_58, Bnumber_61, Bnumber_87, Bnumber_105, Bnumber_109, Bnumber_110, Bnumber_120, Bnumber_130, Bnumber_141, Bnumber_146, Bnumber_147, Bnumber_164, Bnumber_174, Bnumber_178, Bnumber_184, Bnumber_188, Bnumber_189, Bnumber_193, Bnumber_203, Bnumber_209, Bnumber_217, Bnumber_221, Bnumber_229, Bnumber_233, Bnumber_234, Bnumber_235, oi_0, oi_1, oi_19, oi_2, oi_48, oi_6, oi_76, oi_8]; try dsimp only
          refine hB _ _ _ _ _ (fun m47 hm47 => ?_)
          dsimp only [ugo, uwp, ust, uct, rfd, Bnumber, Nat.beq, lv_args, rlk, rs1, rs2, rdl, rky, rcd, rno, rsw, Value.category, List.filter, List.take, List.drop, List.reverse, List.reverseAux, List.cons_append, List.nil_append, Option.toList, Int.toNat, Int.reduceToNat, if_pos, if_neg, reduceIte, ↓reduceIte, Nat.reduceAdd, Nat.reduceEqDiff, Nat.reduceBEq, beq_self_eq_true, Bool.not_true, Bool.not_false, Bool.and_true, Bool.and_false, Bool.true_and, Bool.false_and, gI_sI, gI_sL, gI_sA, gI_sM, gL_sI, gL_sL, gL_sA, gL_sM, aI_sI, aI_sL, aI_sA, aI_sM, aL_sI, aL_sL, aL_sA, aL_sM, Bnumber_0, Bnumber_7, Bnumber_22, Bnumber_43, Bnumber_51, Bnumber_58, Bnumber_61, Bnumber_87, Bnumber_105, Bnumber_109, Bnumber_110, Bnumber_120, Bnumber_130, Bnumber_141, Bnumber_146, Bnumber_147, Bnumber_164, Bnumber_174, Bnumber_178, Bnumber_184, Bnumber_188, Bnumber_189, Bnumber_193, Bnumber_203, Bnumber_209, Bnumber_217, Bnumber_221, Bnumber_229, Bnumber_233, Bnumber_234, Bnumber_235, oi_0, oi_1, oi_19, oi_2, oi_48, oi_6, oi_76, oi_8]; try dsimp only
          intro p48
          refine hB _ _ _ _ _ (fun m49 hm49 => ?_)
          dsimp only [ugo, uwp, ust, uct, rfd, Bnumber, Nat.beq, lv_args, rlk, rs1, rs2, rdl, rky, rcd, rno, rsw, Value.category, List.filter, List.take, List.drop, List.reverse, List.reverseAux, List.cons_append, List.nil_append, Option.toList, Int.toNat, Int.reduceToNat, if_pos, if_neg, reduceIte, ↓reduceIte, Nat.reduceAdd, Nat.reduceEqDiff, Nat.reduceBEq, beq_self_eq_true, Bool.not_true, Bool.not_false, Bool.and_true, Bool.and_false, Bool.true_and, Bool.false_and, gI_sI, gI_sL, gI_sA, gI_sM, gL_sI, gL_sL, gL_sA, gL_sM, aI_sI, aI_sL, aI_sA, aI_sM, aL_sI, aL_sL, aL_sA, aL_sM, Bnumber_0, Bnumber_7, Bnumber_22, Bnumber_43, Bnumber_51, Bnumber_58, Bnumber_61, Bnumber_87, Bnumber_105, Bnumber_109, Bnumber_110, Bnumber_120, Bnumber_130, Bnumber_141, Bnumber_146, Bnumber_147, Bnumber_164, Bnumber_174, Bnumber_178, Bnumber_184, Bnumber_188, Bnumber_189, Bnumber_193, Bnumber_203, Bnumber_209, Bnumber_217, Bnumber_221, Bnumber_229, Bnumber_233, Bnumber_234, Bnumber_235, oi_0, oi_1, oi_19, oi_2, oi_48, oi_6, oi_76, oi_8]; try dsimp only
          unfold Qv_number
          try dsimp only
          rw [hE]
          refine ⟨rfl, (by repeat (first | exact LkR.rf | exact hL | refine LkR.i ?_ | refine LkR.m ?_ | refine LkR.a ?_ (by decide) | refine LkR.u3 ?_ | refine LkR.u6 ?_)), hs, ?_, ?_⟩
          · intro q
            dsimp only [Nat.beq, gI_sI, gI_sL, gI_sA, gI_sM, gL_sI, gL_sL, gL_sA, gL_sM, aI_sI, aI_sL, aI_sA, aI_sM, aL_sI, aL_sL, aL_sA, aL_sM]
            simp only [upd_eq]
            exact hk.1 q
          · intro q
            dsimp only [Nat.beq, gI_sI, gI_sL, gI_sA, gI_sM, gL_sI, gL_sL, gL_sA, gL_sM, aI_sI, aI_sL, aI_sA, aI_sM, aL_sI, aL_sL, aL_sA, aL_sM]
            simp only [upd_eq]
            exact hk.2 q
    have t130 : ∀ (N : Nat) (Y : RS) (e : Int) (n : Int32) (h : Int64) (lo : Int32), LkR t.toNatClampNeg σ Y → (gI Y 13).toInt = (if btY x e = 76 then e + 1 else e) → ndY x (x.2 - i).toNat i = e → n.toInt = e - i → K N 130 [(0, .ref 1000), (1, .int t), (2, .int n), (3, .long h), (5, .int lo)] [] Y := by
      intro N Y e n h lo hL hs hE hn
      refine hB _ _ _ _ _ (fun m1 hm1 => ?_)
      dsimp only [ugo, uwp, ust, uct, rfd, Bnumber, Nat.beq, lv_args, rlk, rs1, rs2, rdl, rky, rcd, rno, rsw, Value.category, List.filter, List.take, List.drop, List.reverse, List.reverseAux, List.cons_append, List.nil_append, Option.toList, Int.toNat, Int.reduceToNat, if_pos, if_neg, reduceIte, ↓reduceIte, Nat.reduceAdd, Nat.reduceEqDiff, Nat.reduceBEq, beq_self_eq_true, Bool.not_true, Bool.not_false, Bool.and_true, Bool.and_false, Bool.true_and, Bool.false_and, gI_sI, gI_sL, gI_sA, gI_sM, gL_sI, gL_sL, gL_sA, gL_sM, aI_sI, aI_sL, aI_sA, aI_sM, aL_sI, aL_sL, aL_sA, aL_sM, Bnumber_0, Bnumber_7, Bnumber_22, Bnumber_43, Bnumber_51, Bnumber_58, Bnumber_61, Bnumber_87, Bnumber_105, Bnumber_109, Bnumber_110, Bnumber_120, Bnumber_130, Bnumber_141, Bnumber_146, Bnumber_147, Bnumber_164, Bnumber_174, Bnumber_178, Bnumber_184, Bnumber_188, Bnumber_189, Bnumber_193, Bnumber_203, Bnumber_209, Bnumber_217, Bnumber_221, Bnumber_229, Bnumber_233, Bnumber_234, Bnumber_235, oi_0, oi_1, oi_19, oi_2, oi_48, oi_6, oi_76, oi_8]; try dsimp only
      refine ⟨fun h2 => ?_, fun h2 => ?_⟩
      · refine hB _ _ _ _ _ (fun m3 hm3 => ?_)
        dsimp only [ugo, uwp, ust, uct, rfd, Bnumber, Nat.beq, lv_args, rlk, rs1, rs2, rdl, rky, rcd, rno, rsw, Value.category, List.filter, List.take, List.drop, List.reverse, List.reverseAux, List.cons_append, List.nil_append, Option.toList, Int.toNat, Int.reduceToNat, if_pos, if_neg, reduceIte, ↓reduceIte, Nat.reduceAdd, Nat.reduceEqDiff, Nat.reduceBEq, beq_self_eq_true, Bool.not_true, Bool.not_false, Bool.and_true, Bool.and_false, Bool.true_and, Bool.false_and, gI_sI, gI_sL, gI_sA, gI_sM, gL_sI, gL_sL, gL_sA, gL_sM, aI_sI, aI_sL, aI_sA, aI_sM, aL_sI, aL_sL, aL_sA, aL_sM, Bnumber_0, Bnumber_7, Bnumber_22, Bnumber_43, Bnumber_51, Bnumber_58, Bnumber_61, Bnumber_87, Bnumber_105, Bnumber_109, Bnumber_110, Bnumber_120, Bnumber_130, Bnumber_141, Bnumber_146, Bnumber_147, Bnumber_164, Bnumber_174, Bnumber_178, Bnumber_184, Bnumber_188, Bnumber_189, Bnumber_193, Bnumber_203, Bnumber_209, Bnumber_217, Bnumber_221, Bnumber_229, Bnumber_233, Bnumber_234, Bnumber_235, oi_0, oi_1, oi_19, oi_2, oi_48, oi_6, oi_76, oi_8]; try dsimp only
        exact hW _ 147 [(0, .ref 1000), (1, .int t), (3, .long h), (5, .int lo)] _ _ _ (by simp [rdl, rky, Value.category]) (t147 _ _ e h lo 2 hL hs hE ⟨fun q => (by have n19 : n ≤ 19 := (by lia); have := Int32.le_iff_toInt_le.mp n19; rw [hn] at this; have : e - i ≤ 19 := this; omega), fun q => rfl⟩)
      · refine hB _ _ _ _ _ (fun m4 hm4 => ?_)
        dsimp only [ugo, uwp, ust, uct, rfd, Bnumber, Nat.beq, lv_args, rlk, rs1, rs2, rdl, rky, rcd, rno, rsw, Value.category, List.filter, List.take, List.drop, List.reverse, List.reverseAux, List.cons_append, List.nil_append, Option.toList, Int.toNat, Int.reduceToNat, if_pos, if_neg, reduceIte, ↓reduceIte, Nat.reduceAdd, Nat.reduceEqDiff, Nat.reduceBEq, beq_self_eq_true, Bool.not_true, Bool.not_false, Bool.and_true, Bool.and_false, Bool.true_and, Bool.false_and, gI_sI, gI_sL, gI_sA, gI_sM, gL_sI, gL_sL, gL_sA, gL_sM, aI_sI, aI_sL, aI_sA, aI_sM, aL_sI, aL_sL, aL_sA, aL_sM, Bnumber_0, Bnumber_7, Bnumber_22, Bnumber_43, Bnumber_51, Bnumber_58, Bnumber_61, Bnumber_87, Bnumber_105, Bnumber_109, Bnumber_110, Bnumber_120, Bnumber_130, Bnumber_141, Bnumber_146, Bnumber_147, Bnumber_164, Bnumber_174, Bnumber_178, Bnumber_184, Bnumber_188, Bnumber_189, Bnumber_193, Bnumber_203, Bnumber_209, Bnumber_217, Bnumber_221, Bnumber_229, Bnumber_233, Bnumber_234, Bnumber_235, oi_0, oi_1, oi_19, oi_2, oi_48, oi_6, oi_76, oi_8]; try dsimp only
        exact hW _ 147 [(0, .ref 1000), (1, .int t), (3, .long h), (5, .int lo)] _ _ _ (by simp [rdl, rky, Value.category]) (t147 _ _ e h lo 6 hL hs hE ⟨fun q => rfl, fun q => (by have n19 : ¬ n ≤ 19 := (by lia); exact absurd (Int32.le_iff_toInt_le.mpr (by rw [hn]; show e - i ≤ 19; omega)) n19)⟩)
    have t110 : ∀ (N : Nat) (Y : RS) (e : Int) (n : Int32) (h : Int64) (lo v : Int32), LkR t.toNatClampNeg σ Y → TxR Y x → (gI Y 13).toInt = e → i ≤ e → e ≤ x.2 → ndY x (x.2 - i).toNat i = e → n.toInt = e - i → (¬ v = 0 ↔ btY x e = 76) → K N 110 [(0, .ref 1000), (1, .int t), (2, .int n), (3, .long h), (5, .int lo)] [.int v, .int t, .ref 10] Y := by
      intro N Y e n h lo v hL hT hs hie hex hE hn hx2
      have hx := hT.2.1.2
      refine hB _ _ _ _ _ (fun m1 hm1 => ?_)
      dsimp only [ugo, uwp, ust, uct, rfd, Bnumber, Nat.beq, lv_args, rlk, rs1, rs2, rdl, rky, rcd, rno, rsw, Value.category, List.filter, List.take, List.drop, List.reverse, List.reverseAux, List.cons_append, List.nil_append, Option.toList, Int.toNat, Int.reduceToNat, if_pos, if_neg, reduceIte, ↓reduceIte, Nat.reduceAdd, Nat.reduceEqDiff, Nat.reduceBEq, beq_self_eq_true, Bool.not_true, Bool.not_false, Bool.and_true, Bool.and_false, Bool.true_and, Bool.false_and, gI_sI, gI_sL, gI_sA, gI_sM, gL_sI, gL_sL, gL_sA, gL_sM, aI_sI, aI_sL, aI_sA, aI_sM, aL_sI, aL_sL, aL_sA, aL_sM, Bnumber_0, Bnumber_7, Bnumber_22, Bnumber_43, Bnumber_51, Bnumber_58, Bnumber_61, Bnumber_87, Bnumber_105, Bnumber_109, Bnumber_110, Bnumber_120, Bnumber_130, Bnumber_141, Bnumber_146, Bnumber_147, Bnumber_164, Bnumber_174, Bnumber_178, Bnumber_184, Bnumber_188, Bnumber_189, Bnumber_193, Bnumber_203, Bnumber_209, Bnumber_217, Bnumber_221, Bnumber_229, Bnumber_233, Bnumber_234, Bnumber_235, oi_0, oi_1, oi_19, oi_2, oi_48, oi_6, oi_76, oi_8]; try dsimp only
      intro p2
      intro p3
      rw [upd_eq]
      refine ⟨fun h4 => ?_, fun h4 => ?_⟩
      · exact hW _ 130 [(0, .ref 1000), (1, .int t), (2, .int n), (3, .long h), (5, .int lo)] _ _ _ (by simp [rdl, rky, Value.category]) (t130 _ _ e n h lo (by repeat (first | exact LkR.rf | exact hL | refine LkR.i ?_ | refine LkR.m ?_ | refine LkR.a ?_ (by decide) | refine LkR.u3 ?_ | refine LkR.u6 ?_)) (by rw [if_neg (fun q => absurd (hx2.mpr q) (by lia))]; exact hs) hE hn)
      · refine hB _ _ _ _ _ (fun m5 hm5 => ?_)
        dsimp only [ugo, uwp, ust, uct, rfd, Bnumber, Nat.beq, lv_args, rlk, rs1, rs2, rdl, rky, rcd, rno, rsw, Value.category, List.filter, List.take, List.drop, List.reverse, List.reverseAux, List.cons_append, List.nil_append, Option.toList, Int.toNat, Int.reduceToNat, if_pos, if_neg, reduceIte, ↓reduceIte, Nat.reduceAdd, Nat.reduceEqDiff, Nat.reduceBEq, beq_self_eq_true, Bool.not_true, Bool.not_false, Bool.and_true, Bool.and_false, Bool.true_and, Bool.false_and, gI_sI, gI_sL, gI_sA, gI_sM, gL_sI, gL_sL, gL_sA, gL_sM, aI_sI, aI_sL, aI_sA, aI_sM, aL_sI, aL_sL, aL_sA, aL_sM, Bnumber_0, Bnumber_7, Bnumber_22, Bnumber_43, Bnumber_51, Bnumber_58, Bnumber_61, Bnumber_87, Bnumber_105, Bnumber_109, Bnumber_110, Bnumber_120, Bnumber_130, Bnumber_141, Bnumber_146, Bnumber_147, Bnumber_164, Bnumber_174, Bnumber_178, Bnumber_184, Bnumber_188, Bnumber_189, Bnumber_193, Bnumber_203, Bnumber_209, Bnumber_217, Bnumber_221, Bnumber_229, Bnumber_233, Bnumber_234, Bnumber_235, oi_0, oi_1, oi_19, oi_2, oi_48, oi_6, oi_76, oi_8]; try dsimp only
        exact hW _ 130 [(0, .ref 1000), (1, .int t), (2, .int n), (3, .long h), (5, .int lo)] _ _ _ (by simp [rdl, rky, Value.category]) (t130 _ _ e n h lo (by repeat (first | exact LkR.rf | exact hL | refine LkR.i ?_ | refine LkR.m ?_ | refine LkR.a ?_ (by decide) | refine LkR.u3 ?_ | refine LkR.u6 ?_)) (by show (gI Y 13 + 1).toInt = _; rw [if_pos (hx2.mp (by lia))]; exact i32_p hs (by omega) (by omega)) hE hn)
    have t87 : ∀ (N : Nat) (Y : RS) (e : Int) (n : Int32) (h : Int64) (lo : Int32), LkR t.toNatClampNeg σ Y → TxR Y x → (gI Y 13).toInt = e → i ≤ e → e ≤ x.2 → ndY x (x.2 - i).toNat i = e → n.toInt = e - i → K N 87 [(0, .ref 1000), (1, .int t), (2, .int n), (3, .long h), (5, .int lo)] [] Y := by
      intro N Y e n h lo hL hT hs hie hex hE hn
      refine hB _ _ _ _ _ (fun m1 hm1 => ?_)
      dsimp only [ugo, uwp, ust, uct, rfd, Bnumber, Nat.beq, lv_args, rlk, rs1, rs2, rdl, rky, rcd, rno, rsw, Value.category, List.filter, List.take, List.drop, List.reverse, List.reverseAux, List.cons_append, List.nil_append, Option.toList, Int.toNat, Int.reduceToNat, if_pos, if_neg, reduceIte, ↓reduceIte, Nat.reduceAdd, Nat.reduceEqDiff, Nat.reduceBEq, beq_self_eq_true, Bool.not_true, Bool.not_false, Bool.and_true, Bool.and_false, Bool.true_and, Bool.false_and, gI_sI, gI_sL, gI_sA, gI_sM, gL_sI, gL_sL, gL_sA, gL_sM, aI_sI, aI_sL, aI_sA, aI_sM, aL_sI, aL_sL, aL_sA, aL_sM, Bnumber_0, Bnumber_7, Bnumber_22, Bnumber_43, Bnumber_51, Bnumber_58, Bnumber_61, Bnumber_87, Bnumber_105, Bnumber_109, Bnumber_110, Bnumber_120, Bnumber_130, Bnumber_141, Bnumber_146, Bnumber_147, Bnumber_164, Bnumber_174, Bnumber_178, Bnumber_184, Bnumber_188, Bnumber_189, Bnumber_193, Bnumber_203, Bnumber_209, Bnumber_217, Bnumber_221, Bnumber_229, Bnumber_233, Bnumber_234, Bnumber_235, oi_0, oi_1, oi_19, oi_2, oi_48, oi_6, oi_76, oi_8]; try dsimp only
      refine ⟨trivial, fun w2 τ2 hq2 => ?_⟩
      obtain ⟨rfl, r2, rfl, hr2⟩ := hq2 trivial
      dsimp only [Option.toList, List.cons_append, List.nil_append, Nat.beq, gI_sI, gI_sL, gI_sA, gI_sM, gL_sI, gL_sL, gL_sA, gL_sM, aI_sI, aI_sL, aI_sA, aI_sM, aL_sI, aL_sL, aL_sA, aL_sM]
      have ha2 := hr2 x hT
      rw [hs] at ha2
      refine ⟨fun h3 => ?_, fun h3 => ?_⟩
      · refine hB _ _ _ _ _ (fun m4 hm4 => ?_)
        dsimp only [ugo, uwp, ust, uct, rfd, Bnumber, Nat.beq, lv_args, rlk, rs1, rs2, rdl, rky, rcd, rno, rsw, Value.category, List.filter, List.take, List.drop, List.reverse, List.reverseAux, List.cons_append, List.nil_append, Option.toList, Int.toNat, Int.reduceToNat, if_pos, if_neg, reduceIte, ↓reduceIte, Nat.reduceAdd, Nat.reduceEqDiff, Nat.reduceBEq, beq_self_eq_true, Bool.not_true, Bool.not_false, Bool.and_true, Bool.and_false, Bool.true_and, Bool.false_and, gI_sI, gI_sL, gI_sA, gI_sM, gL_sI, gL_sL, gL_sA, gL_sM, aI_sI, aI_sL, aI_sA, aI_sM, aL_sI, aL_sL, aL_sA, aL_sM, Bnumber_0, Bnumber_7, Bnumber_22, Bnumber_43, Bnumber_51, Bnumber_58, Bnumber_61, Bnumber_87, Bnumber_105, Bnumber_109, Bnumber_110, Bnumber_120, Bnumber_130, Bnumber_141, Bnumber_146, Bnumber_147, Bnumber_164, Bnumber_174, Bnumber_178, Bnumber_184, Bnumber_188, Bnumber_189, Bnumber_193, Bnumber_203, Bnumber_209, Bnumber_217, Bnumber_221, Bnumber_229, Bnumber_233, Bnumber_234, Bnumber_235, oi_0, oi_1, oi_19, oi_2, oi_48, oi_6, oi_76, oi_8]; try dsimp only
        have hc76 := i32_r (k := 76) ha2 (by decide) (by decide)
        exact hW _ 110 [(0, .ref 1000), (1, .int t), (2, .int n), (3, .long h), (5, .int lo)] _ _ _ (by simp [rdl, rky, Value.category]) (t110 _ _ e n h lo 0 hL hT hs hie hex hE hn ⟨fun q => absurd rfl q, fun q => absurd (hc76.mpr q) (by lia)⟩)
      · refine hB _ _ _ _ _ (fun m5 hm5 => ?_)
        dsimp only [ugo, uwp, ust, uct, rfd, Bnumber, Nat.beq, lv_args, rlk, rs1, rs2, rdl, rky, rcd, rno, rsw, Value.category, List.filter, List.take, List.drop, List.reverse, List.reverseAux, List.cons_append, List.nil_append, Option.toList, Int.toNat, Int.reduceToNat, if_pos, if_neg, reduceIte, ↓reduceIte, Nat.reduceAdd, Nat.reduceEqDiff, Nat.reduceBEq, beq_self_eq_true, Bool.not_true, Bool.not_false, Bool.and_true, Bool.and_false, Bool.true_and, Bool.false_and, gI_sI, gI_sL, gI_sA, gI_sM, gL_sI, gL_sL, gL_sA, gL_sM, aI_sI, aI_sL, aI_sA, aI_sM, aL_sI, aL_sL, aL_sA, aL_sM, Bnumber_0, Bnumber_7, Bnumber_22, Bnumber_43, Bnumber_51, Bnumber_58, Bnumber_61, Bnumber_87, Bnumber_105, Bnumber_109, Bnumber_110, Bnumber_120, Bnumber_130, Bnumber_141, Bnumber_146, Bnumber_147, Bnumber_164, Bnumber_174, Bnumber_178, Bnumber_184, Bnumber_188, Bnumber_189, Bnumber_193, Bnumber_203, Bnumber_209, Bnumber_217, Bnumber_221, Bnumber_229, Bnumber_233, Bnumber_234, Bnumber_235, oi_0, oi_1, oi_19, oi_2, oi_48, oi_6, oi_76, oi_8]; try dsimp only
        have hc76 := i32_r (k := 76) ha2 (by decide) (by decide)
        exact hW _ 110 [(0, .ref 1000), (1, .int t), (2, .int n), (3, .long h), (5, .int lo)] _ _ _ (by simp [rdl, rky, Value.category]) (t110 _ _ e n h lo 1 hL hT hs hie hex hE hn ⟨fun _ => hc76.mp (by lia), fun _ => by decide⟩)
    have loop : ∀ (N : Nat) (Y : RS) (e : Int) (n : Int32) (h : Int64) (lo : Int32), LkR t.toNatClampNeg σ Y → TxR Y x → (gI Y 13).toInt = e → i ≤ e → e ≤ x.2 → ndY x (x.2 - e).toNat e = ndY x (x.2 - i).toNat i → n.toInt = e - i → K N 7 [(0, .ref 1000), (1, .int t), (2, .int n), (3, .long h), (5, .int lo)] [] Y := by
      intro N
      induction N using Nat.strongRecOn with
      | ind N loop =>
        have t61 : ∀ (M : Nat), M < N → ∀ (Y : RS) (e : Int) (n : Int32) (h : Int64) (lo d : Int32), LkR t.toNatClampNeg σ Y → TxR Y x → (gI Y 13).toInt = e → i ≤ e → e ≤ x.2 → ndY x (x.2 - e).toNat e = ndY x (x.2 - i).toNat i → n.toInt = e - i → isDY (btY x e) → e < x.2 → K M 61 [(0, .ref 1000), (1, .int t), (2, .int n), (3, .long h), (5, .int lo), (6, .int d)] [] Y := by
          intro M hM Y e n h lo d hL hT hs hie hex hN hn hcs hlt
          have hx := hT.2.1.2
          refine hB _ _ _ _ _ (fun m1 hm1 => ?_)
          dsimp only [ugo, uwp, ust, uct, rfd, Bnumber, Nat.beq, lv_args, rlk, rs1, rs2, rdl, rky, rcd, rno, rsw, Value.category, List.filter, List.take, List.drop, List.reverse, List.reverseAux, List.cons_append, List.nil_append, Option.toList, Int.toNat, Int.reduceToNat, if_pos, if_neg, reduceIte, ↓reduceIte, Nat.reduceAdd, Nat.reduceEqDiff, Nat.reduceBEq, beq_self_eq_true, Bool.not_true, Bool.not_false, Bool.and_true, Bool.and_false, Bool.true_and, Bool.false_and, gI_sI, gI_sL, gI_sA, gI_sM, gL_sI, gL_sL, gL_sA, gL_sM, aI_sI, aI_sL, aI_sA, aI_sM, aL_sI, aL_sL, aL_sA, aL_sM, Bnumber_0, Bnumber_7, Bnumber_22, Bnumber_43, Bnumber_51, Bnumber_58, Bnumber_61, Bnumber_87, Bnumber_105, Bnumber_109, Bnumber_110, Bnumber_120, Bnumber_130, Bnumber_141, Bnumber_146, Bnumber_147, Bnumber_164, Bnumber_174, Bnumber_178, Bnumber_184, Bnumber_188, Bnumber_189, Bnumber_193, Bnumber_203, Bnumber_209, Bnumber_217, Bnumber_221, Bnumber_229, Bnumber_233, Bnumber_234, Bnumber_235, oi_0, oi_1, oi_19, oi_2, oi_48, oi_6, oi_76, oi_8]; try dsimp only
          exact hW _ 7 [(0, .ref 1000), (1, .int t), (2, .int (n + 1)), (3, .long (Int64.ofInt 10 * h + d.toInt64)), (5, .int lo)] _ _ _ (by simp [rdl, rky, Value.category]) (loop _ (by omega) _ (e + 1) (n + 1) (Int64.ofInt 10 * h + d.toInt64) lo (by repeat (first | exact LkR.rf | exact hL | refine LkR.i ?_ | refine LkR.m ?_ | refine LkR.a ?_ (by decide) | refine LkR.u3 ?_ | refine LkR.u6 ?_)) (TxR.kp hT rfl rfl) (by show (gI Y 13 + 1).toInt = _; exact i32_p hs (by omega) (by omega)) (by omega) (by omega) (by rw [← hN]; exact (nd_go hlt hcs).symm) (by rw [i32_p hn (by omega) (by omega)]; omega))
        intro Y e n h lo hL hT hs hie hex hN hn
        refine hB _ _ _ _ _ (fun m1 hm1 => ?_)
        dsimp only [ugo, uwp, ust, uct, rfd, Bnumber, Nat.beq, lv_args, rlk, rs1, rs2, rdl, rky, rcd, rno, rsw, Value.category, List.filter, List.take, List.drop, List.reverse, List.reverseAux, List.cons_append, List.nil_append, Option.toList, Int.toNat, Int.reduceToNat, if_pos, if_neg, reduceIte, ↓reduceIte, Nat.reduceAdd, Nat.reduceEqDiff, Nat.reduceBEq, beq_self_eq_true, Bool.not_true, Bool.not_false, Bool.and_true, Bool.and_false, Bool.true_and, Bool.false_and, gI_sI, gI_sL, gI_sA, gI_sM, gL_sI, gL_sL, gL_sA, gL_sM, aI_sI, aI_sL, aI_sA, aI_sM, aL_sI, aL_sL, aL_sA, aL_sM, Bnumber_0, Bnumber_7, Bnumber_22, Bnumber_43, Bnumber_51, Bnumber_58, Bnumber_61, Bnumber_87, Bnumber_105, Bnumber_109, Bnumber_110, Bnumber_120, Bnumber_130, Bnumber_141, Bnumber_146, Bnumber_147, Bnumber_164, Bnumber_174, Bnumber_178, Bnumber_184, Bnumber_188, Bnumber_189, Bnumber_193, Bnumber_203, Bnumber_209, Bnumber_217, Bnumber_221, Bnumber_229, Bnumber_233, Bnumber_234, Bnumber_235, oi_0, oi_1, oi_19, oi_2, oi_48, oi_6, oi_76, oi_8]; try dsimp only
        refine ⟨trivial, fun w2 τ2 hq2 => ?_⟩
        obtain ⟨rfl, r2, rfl, hr2⟩ := hq2 trivial
        dsimp only [Option.toList, List.cons_append, List.nil_append, Nat.beq, gI_sI, gI_sL, gI_sA, gI_sM, gL_sI, gL_sL, gL_sA, gL_sM, aI_sI, aI_sL, aI_sA, aI_sM, aL_sI, aL_sL, aL_sA, aL_sM]
        have ha2 := hr2 x hT
        rw [hs] at ha2
        refine ⟨trivial, fun w3 τ3 hq3 => ?_⟩
        obtain ⟨rfl, hb3⟩ := hq3 trivial
        rcases hb3 with ⟨rfl, hc3⟩ | ⟨rfl, hc3⟩
        · dsimp only [Option.toList, List.cons_append, List.nil_append, Nat.beq, gI_sI, gI_sL, gI_sA, gI_sM, gL_sI, gL_sL, gL_sA, gL_sM, aI_sI, aI_sL, aI_sA, aI_sM, aL_sI, aL_sL, aL_sA, aL_sM]
          refine ⟨fun h4 => absurd h4 (by decide), fun h4 => ?_⟩
          clear h4
          refine hB _ _ _ _ _ (fun m5 hm5 => ?_)
          dsimp only [ugo, uwp, ust, uct, rfd, Bnumber, Nat.beq, lv_args, rlk, rs1, rs2, rdl, rky, rcd, rno, rsw, Value.category, List.filter, List.take, List.drop, List.reverse, List.reverseAux, List.cons_append, List.nil_append, Option.toList, Int.toNat, Int.reduceToNat, if_pos, if_neg, reduceIte, ↓reduceIte, Nat.reduceAdd, Nat.reduceEqDiff, Nat.reduceBEq, beq_self_eq_true, Bool.not_true, Bool.not_false, Bool.and_true, Bool.and_false, Bool.true_and, Bool.false_and, gI_sI, gI_sL, gI_sA, gI_sM, gL_sI, gL_sL, gL_sA, gL_sM, aI_sI, aI_sL, aI_sA, aI_sM, aL_sI, aL_sL, aL_sA, aL_sM, Bnumber_0, Bnumber_7, Bnumber_22, Bnumber_43, Bnumber_51, Bnumber_58, Bnumber_61, Bnumber_87, Bnumber_105, Bnumber_109, Bnumber_110, Bnumber_120, Bnumber_130, Bnumber_141, Bnumber_146, Bnumber_147, Bnumber_164, Bnumber_174, Bnumber_178, Bnumber_184, Bnumber_188, Bnumber_189, Bnumber_193, Bnumber_203, Bnumber_209, Bnumber_217, Bnumber_221, Bnumber_229, Bnumber_233, Bnumber_234, Bnumber_235, oi_0, oi_1, oi_19, oi_2, oi_48, oi_6, oi_76, oi_8]; try dsimp only
          have hcs : isDY (btY x e) := by have q2 := (atR.l ha2).2.1; omega
          have hlt : e < x.2 := bt_lt (by omega)
          refine ⟨trivial, fun w6 τ6 hq6 => ?_⟩
          obtain ⟨rfl, r6, rfl, hr6⟩ := hq6 trivial
          dsimp only [Option.toList, List.cons_append, List.nil_append, Nat.beq, gI_sI, gI_sL, gI_sA, gI_sM, gL_sI, gL_sL, gL_sA, gL_sM, aI_sI, aI_sL, aI_sA, aI_sM, aL_sI, aL_sL, aL_sA, aL_sM]
          have ha6 := hr6 x hT
          refine ⟨fun h7 => ?_, fun h7 => ?_⟩
          · refine hB _ _ _ _ _ (fun m8 hm8 => ?_)
            dsimp only [ugo, uwp, ust, uct, rfd, Bnumber, Nat.beq, lv_args, rlk, rs1, rs2, rdl, rky, rcd, rno, rsw, Value.category, List.filter, List.take, List.drop, List.reverse, List.reverseAux, List.cons_append, List.nil_append, Option.toList, Int.toNat, Int.reduceToNat, if_pos, if_neg, reduceIte, ↓reduceIte, Nat.reduceAdd, Nat.reduceEqDiff, Nat.reduceBEq, beq_self_eq_true, Bool.not_true, Bool.not_false, Bool.and_true, Bool.and_false, Bool.true_and, Bool.false_and, gI_sI, gI_sL, gI_sA, gI_sM, gL_sI, gL_sL, gL_sA, gL_sM, aI_sI, aI_sL, aI_sA, aI_sM, aL_sI, aL_sL, aL_sA, aL_sM, Bnumber_0, Bnumber_7, Bnumber_22, Bnumber_43, Bnumber_51, Bnumber_58, Bnumber_61, Bnumber_87, Bnumber_105, Bnumber_109, Bnumber_110, Bnumber_120, Bnumber_130, Bnumber_141, Bnumber_146, Bnumber_147, Bnumber_164, Bnumber_174, Bnumber_178, Bnumber_184, Bnumber_188, Bnumber_189, Bnumber_193, Bnumber_203, Bnumber_209, Bnumber_217, Bnumber_221, Bnumber_229, Bnumber_233, Bnumber_234, Bnumber_235, oi_0, oi_1, oi_19, oi_2, oi_48, oi_6, oi_76, oi_8]; try dsimp only
            exact hW _ 61 [(0, .ref 1000), (1, .int t), (2, .int n), (3, .long h), (5, .int 1), (6, .int (r6 - 48))] _ _ _ (by simp [rdl, rky, Value.category]) (t61 _ (by omega) _ e n h 1 (r6 - 48) hL hT hs hie hex hN hn hcs hlt)
          · refine hB _ _ _ _ _ (fun m9 hm9 => ?_)
            dsimp only [ugo, uwp, ust, uct, rfd, Bnumber, Nat.beq, lv_args, rlk, rs1, rs2, rdl, rky, rcd, rno, rsw, Value.category, List.filter, List.take, List.drop, List.reverse, List.reverseAux, List.cons_append, List.nil_append, Option.toList, Int.toNat, Int.reduceToNat, if_pos, if_neg, reduceIte, ↓reduceIte, Nat.reduceAdd, Nat.reduceEqDiff, Nat.reduceBEq, beq_self_eq_true, Bool.not_true, Bool.not_false, Bool.and_true, Bool.and_false, Bool.true_and, Bool.false_and, gI_sI, gI_sL, gI_sA, gI_sM, gL_sI, gL_sL, gL_sA, gL_sM, aI_sI, aI_sL, aI_sA, aI_sM, aL_sI, aL_sL, aL_sA, aL_sM, Bnumber_0, Bnumber_7, Bnumber_22, Bnumber_43, Bnumber_51, Bnumber_58, Bnumber_61, Bnumber_87, Bnumber_105, Bnumber_109, Bnumber_110, Bnumber_120, Bnumber_130, Bnumber_141, Bnumber_146, Bnumber_147, Bnumber_164, Bnumber_174, Bnumber_178, Bnumber_184, Bnumber_188, Bnumber_189, Bnumber_193, Bnumber_203, Bnumber_209, Bnumber_217, Bnumber_221, Bnumber_229, Bnumber_233, Bnumber_234, Bnumber_235, oi_0, oi_1, oi_19, oi_2, oi_48, oi_6, oi_76, oi_8]; try dsimp only
            refine ⟨fun h10 => ?_, fun h10 => ?_⟩
            · exact hW _ 61 [(0, .ref 1000), (1, .int t), (2, .int n), (3, .long h), (5, .int lo), (6, .int (r6 - 48))] _ _ _ (by simp [rdl, rky, Value.category]) (t61 _ (by omega) _ e n h lo (r6 - 48) hL hT hs hie hex hN hn hcs hlt)
            · refine hB _ _ _ _ _ (fun m11 hm11 => ?_)
              dsimp only [ugo, uwp, ust, uct, rfd, Bnumber, Nat.beq, lv_args, rlk, rs1, rs2, rdl, rky, rcd, rno, rsw, Value.category, List.filter, List.take, List.drop, List.reverse, List.reverseAux, List.cons_append, List.nil_append, Option.toList, Int.toNat, Int.reduceToNat, if_pos, if_neg, reduceIte, ↓reduceIte, Nat.reduceAdd, Nat.reduceEqDiff, Nat.reduceBEq, beq_self_eq_true, Bool.not_true, Bool.not_false, Bool.and_true, Bool.and_false, Bool.true_and, Bool.false_and, gI_sI, gI_sL, gI_sA, gI_sM, gL_sI, gL_sL, gL_sA, gL_sM, aI_sI, aI_sL, aI_sA, aI_sM, aL_sI, aL_sL, aL_sA, aL_sM, Bnumber_0, Bnumber_7, Bnumber_22, Bnumber_43, Bnumber_51, Bnumber_58, Bnumber_61, Bnumber_87, Bnumber_105, Bnumber_109, Bnumber_110, Bnumber_120, Bnumber_130, Bnumber_141, Bnumber_146, Bnumber_147, Bnumber_164, Bnumber_174, Bnumber_178, Bnumber_184, Bnumber_188, Bnumber_189, Bnumber_193, Bnumber_203, Bnumber_209, Bnumber_217, Bnumber_221, Bnumber_229, Bnumber_233, Bnumber_234, Bnumber_235, oi_0, oi_1, oi_19, oi_2, oi_48, oi_6, oi_76, oi_8]; try dsimp only
              refine ⟨fun h12 => ?_, fun h12 => ?_⟩
              · exact hW _ 61 [(0, .ref 1000), (1, .int t), (2, .int n), (3, .long h), (5, .int lo), (6, .int (r6 - 48))] _ _ _ (by simp [rdl, rky, Value.category]) (t61 _ (by omega) _ e n h lo (r6 - 48) hL hT hs hie hex hN hn hcs hlt)
              · refine hB _ _ _ _ _ (fun m13 hm13 => ?_)
                dsimp only [ugo, uwp, ust, uct, rfd, Bnumber, Nat.beq, lv_args, rlk, rs1, rs2, rdl, rky, rcd, rno, rsw, Value.category, List.filter, List.take, List.drop, List.reverse, List.reverseAux, List.cons_append, List.nil_append, Option.toList, Int.toNat, Int.reduceToNat, if_pos, if_neg, reduceIte, ↓reduceIte, Nat.reduceAdd, Nat.reduceEqDiff, Nat.reduceBEq, beq_self_eq_true, Bool.not_true, Bool.not_false, Bool.and_true, Bool.and_false, Bool.true_and, Bool.false_and, gI_sI, gI_sL, gI_sA, gI_sM, gL_sI, gL_sL, gL_sA, gL_sM, aI_sI, aI_sL, aI_sA, aI_sM, aL_sI, aL_sL, aL_sA, aL_sM, Bnumber_0, Bnumber_7, Bnumber_22, Bnumber_43, Bnumber_51, Bnumber_58, Bnumber_61, Bnumber_87, Bnumber_105, Bnumber_109, Bnumber_110, Bnumber_120, Bnumber_130, Bnumber_141, Bnumber_146, Bnumber_147, Bnumber_164, Bnumber_174, Bnumber_178, Bnumber_184, Bnumber_188, Bnumber_189, Bnumber_193, Bnumber_203, Bnumber_209, Bnumber_217, Bnumber_221, Bnumber_229, Bnumber_233, Bnumber_234, Bnumber_235, oi_0, oi_1, oi_19, oi_2, oi_48, oi_6, oi_76, oi_8]; try dsimp only
                exact hW _ 61 [(0, .ref 1000), (1, .int t), (2, .int n), (3, .long h), (5, .int 1), (6, .int (r6 - 48))] _ _ _ (by simp [rdl, rky, Value.category]) (t61 _ (by omega) _ e n h 1 (r6 - 48) hL hT hs hie hex hN hn hcs hlt)
        · dsimp only [Option.toList, List.cons_append, List.nil_append, Nat.beq, gI_sI, gI_sL, gI_sA, gI_sM, gL_sI, gL_sL, gL_sA, gL_sM, aI_sI, aI_sL, aI_sA, aI_sM, aL_sI, aL_sL, aL_sA, aL_sM]
          refine ⟨fun h14 => ?_, fun h14 => absurd h14 (by decide)⟩
          clear h14
          have hnc : ¬ isDY (btY x e) := by have q2 := (atR.l ha2).2.1; omega
          exact hW _ 87 [(0, .ref 1000), (1, .int t), (2, .int n), (3, .long h), (5, .int lo)] _ _ _ (by simp [rdl, rky, Value.category]) (t87 _ _ e n h lo hL hT hs hie hex (by rw [← hN]; exact nd_no hnc) hn)
    intro n0_
    refine hB _ _ _ _ _ (fun m1 hm1 => ?_)
    dsimp only [ugo, uwp, ust, uct, rfd, Bnumber, Nat.beq, lv_args, rlk, rs1, rs2, rdl, rky, rcd, rno, rsw, Value.category, List.filter, List.take, List.drop, List.reverse, List.reverseAux, List.cons_append, List.nil_append, Option.toList, Int.toNat, Int.reduceToNat, if_pos, if_neg, reduceIte, ↓reduceIte, Nat.reduceAdd, Nat.reduceEqDiff, Nat.reduceBEq, beq_self_eq_true, Bool.not_true, Bool.not_false, Bool.and_true, Bool.and_false, Bool.true_and, Bool.false_and, gI_sI, gI_sL, gI_sA, gI_sM, gL_sI, gL_sL, gL_sA, gL_sM, aI_sI, aI_sL, aI_sA, aI_sM, aL_sI, aL_sL, aL_sA, aL_sM, Bnumber_0, Bnumber_7, Bnumber_22, Bnumber_43, Bnumber_51, Bnumber_58, Bnumber_61, Bnumber_87, Bnumber_105, Bnumber_109, Bnumber_110, Bnumber_120, Bnumber_130, Bnumber_141, Bnumber_146, Bnumber_147, Bnumber_164, Bnumber_174, Bnumber_178, Bnumber_184, Bnumber_188, Bnumber_189, Bnumber_193, Bnumber_203, Bnumber_209, Bnumber_217, Bnumber_221, Bnumber_229, Bnumber_233, Bnumber_234, Bnumber_235, oi_0, oi_1, oi_19, oi_2, oi_48, oi_6, oi_76, oi_8]; try dsimp only
    exact hW _ 7 [(0, .ref 1000), (1, .int t), (2, .int 0), (3, .long 0), (5, .int 0)] _ _ _ (by simp [rdl, rky, Value.category]) (loop _ _ i 0 0 0 LkR.rf hT0 hs0 (Int.le_refl _) (by omega) rfl (by show (0 : Int) = i - i; omega))
  next => exact hP.elim
theorem w_number : UMet 9 (fun _ _ => True) Qw_number := fun A1 σ _ w τ h x i hP => v_number x i A1 σ hP w τ h
def Pv_character (x : TxY) (i : Int) : UP1 := fun A1 σ => match A1 with
  | [.int t] => TxR σ x ∧ (gI σ 13).toInt = i ∧ 0 ≤ i ∧ i < x.2
  | _ => False
def Qv_character (x : TxY) (i : Int) : UQ1 := fun A1 σ w τ => match A1 with
  | [.int t] => w = none ∧ LkR t.toNatClampNeg σ τ ∧ (((32 ≤ btY x (i + 1) ∧ btY x (i + 1) ≤ 126 ∧ ¬ btY x (i + 1) = 39 ∧ ¬ btY x (i + 1) = 92 ∧ btY x (i + 2) = 39) ∧ aI τ 3 t.toNatClampNeg = 3 ∧ (gI τ 13).toInt = i + 3) ∨ (¬ (32 ≤ btY x (i + 1) ∧ btY x (i + 1) ≤ 126 ∧ ¬ btY x (i + 1) = 39 ∧ ¬ btY x (i + 1) = 92 ∧ btY x (i + 2) = 39) ∧ aI τ 3 t.toNatClampNeg = 6))
  | _ => False
def Qw_character : UQ1 := fun A1 σ w τ => ∀ (x : TxY) (i : Int), Pv_character x i A1 σ → Qv_character x i A1 σ w τ
set_option maxRecDepth 100000 in
set_option maxHeartbeats 4000000 in
theorem v_character (x : TxY) (i : Int) : UMet 10 (Pv_character x i) (Qv_character x i) := by
  refine UMet.by Bcharacter [(3, (fun _ _ => True), Qw_at)] rfl (ucc w_at uc0) ?_
  intro A1 σ hP K hB hW
  unfold Pv_character at hP
  split at hP
  next t =>
    obtain ⟨hT0, hs0, hi0, hi1⟩ := hP
    have hx := hT0.2.1.2
    have t69 : ∀ (N : Nat) (b v : Int32), (¬ v = 0 ↔ (32 ≤ btY x (i + 1) ∧ btY x (i + 1) ≤ 126 ∧ ¬ btY x (i + 1) = 39 ∧ ¬ btY x (i + 1) = 92 ∧ btY x (i + 2) = 39)) → K N 69 [(0, .ref 1000), (1, .int t), (2, .int b)] [.int v] σ := by
      intro N b v hv
      refine hB _ _ _ _ _ (fun m1 hm1 => ?_)
      dsimp only [ugo, uwp, ust, uct, rfd, Bcharacter, Nat.beq, lv_args, rlk, rs1, rs2, rdl, rky, rcd, rno, rsw, Value.category, List.filter, List.take, List.drop, List.reverse, List.reverseAux, List.cons_append, List.nil_append, Option.toList, Int.toNat, Int.reduceToNat, if_pos, if_neg, reduceIte, ↓reduceIte, Nat.reduceAdd, Nat.reduceEqDiff, Nat.reduceBEq, beq_self_eq_true, Bool.not_true, Bool.not_false, Bool.and_true, Bool.and_false, Bool.true_and, Bool.false_and, gI_sI, gI_sL, gI_sA, gI_sM, gL_sI, gL_sL, gL_sA, gL_sM, aI_sI, aI_sL, aI_sA, aI_sM, aL_sI, aL_sL, aL_sA, aL_sM, Bcharacter_0, Bcharacter_24, Bcharacter_30, Bcharacter_36, Bcharacter_42, Bcharacter_48, Bcharacter_64, Bcharacter_68, Bcharacter_69, Bcharacter_79, Bcharacter_83, Bcharacter_85, Bcharacter_103, Bcharacter_107, Bcharacter_108, oi_0, oi_1, oi_127, oi_2, oi_3, oi_32, oi_39, oi_6, oi_92]; try dsimp only
      refine ⟨fun h2 => ?_, fun h2 => ?_⟩
      · refine hB _ _ _ _ _ (fun m3 hm3 => ?_)
        dsimp only [ugo, uwp, ust, uct, rfd, Bcharacter, Nat.beq, lv_args, rlk, rs1, rs2, rdl, rky, rcd, rno, rsw, Value.category, List.filter, List.take, List.drop, List.reverse, List.reverseAux, List.cons_append, List.nil_append, Option.toList, Int.toNat, Int.reduceToNat, if_pos, if_neg, reduceIte, ↓reduceIte, Nat.reduceAdd, Nat.reduceEqDiff, Nat.reduceBEq, beq_self_eq_true, Bool.not_true, Bool.not_false, Bool.and_true, Bool.and_false, Bool.true_and, Bool.false_and, gI_sI, gI_sL, gI_sA, gI_sM, gL_sI, gL_sL, gL_sA, gL_sM, aI_sI, aI_sL, aI_sA, aI_sM, aL_sI, aL_sL, aL_sA, aL_sM, Bcharacter_0, Bcharacter_24, Bcharacter_30, Bcharacter_36, Bcharacter_42, Bcharacter_48, Bcharacter_64, Bcharacter_68, Bcharacter_69, Bcharacter_79, Bcharacter_83, Bcharacter_85, Bcharacter_103, Bcharacter_107, Bcharacter_108, oi_0, oi_1, oi_127, oi_2, oi_3, oi_32, oi_39, oi_6, oi_92]; try dsimp only
        refine hB _ _ _ _ _ (fun m4 hm4 => ?_)
        dsimp only [ugo, uwp, ust, uct, rfd, Bcharacter, Nat.beq, lv_args, rlk, rs1, rs2, rdl, rky, rcd, rno, rsw, Value.category, List.filter, List.take, List.drop, List.reverse, List.reverseAux, List.cons_append, List.nil_append, Option.toList, Int.toNat, Int.reduceToNat, if_pos, if_neg, reduceIte, ↓reduceIte, Nat.reduceAdd, Nat.reduceEqDiff, Nat.reduceBEq, beq_self_eq_true, Bool.not_true, Bool.not_false, Bool.and_true, Bool.and_false, Bool.true_and, Bool.false_and, gI_sI, gI_sL, gI_sA, gI_sM, gL_sI, gL_sL, gL_sA, gL_sM, aI_sI, aI_sL, aI_sA, aI_sM, aL_sI, aL_sL, aL_sA, aL_sM, Bcharacter_0, Bcharacter_24, Bcharacter_30, Bcharacter_36, Bcharacter_42, Bcharacter_48, Bcharacter_64, Bcharacter_68, Bcharacter_69, Bcharacter_79, Bcharacter_83, Bcharacter_85, Bcharacter_103, Bcharacter_107, Bcharacter_108, oi_0, oi_1, oi_127, oi_2, oi_3, oi_32, oi_39, oi_6, oi_92]; try dsimp only
        intro p5
        intro p6
        refine ⟨fun h7 => ?_, fun h7 => ?_⟩
        · refine hB _ _ _ _ _ (fun m8 hm8 => ?_)
          dsimp only [ugo, uwp, ust, uct, rfd, Bcharacter, Nat.beq, lv_args, rlk, rs1, rs2, rdl, rky, rcd, rno, rsw, Value.category, List.filter, List.take, List.drop, List.reverse, List.reverseAux, List.cons_append, List.nil_append, Option.toList, Int.toNat, Int.reduceToNat, if_pos, if_neg, reduceIte, ↓reduceIte, Nat.reduceAdd, Nat.reduceEqDiff, Nat.reduceBEq, beq_self_eq_true, Bool.not_true, Bool.not_false, Bool.and_true, Bool.and_false, Bool.true_and, Bool.false_and, gI_sI, gI_sL, gI_sA, gI_sM, gL_sI, gL_sL, gL_sA, gL_sM, aI_sI, aI_sL, aI_sA, aI_sM, aL_sI, aL_sL, aL_sA, aL_sM, Bcharacter_0, Bcharacter_24, Bcharacter_30, Bcharacter_36, Bcharacter_42, Bcharacter_48, Bcharacter_64, Bcharacter_68, Bcharacter_69, Bcharacter_79, Bcharacter_83, Bcharacter_85, Bcharacter_103, Bcharacter_107, Bcharacter_108, oi_0, oi_1, oi_127, oi_2, oi_3, oi_32, oi_39, oi_6, oi_92]; try dsimp only
          refine hB _ _ _ _ _ (fun m9 hm9 => ?_)
          dsimp only [ugo, uwp, ust, uct, rfd, Bcharacter, Nat.beq, lv_args, rlk, rs1, rs2, rdl, rky, rcd, rno, rsw, Value.category, List.filter, List.take, List.drop, List.reverse, List.reverseAux, List.cons_append, List.nil_append, Option.toList, Int.toNat, Int.reduceToNat, if_pos, if_neg, reduceIte, ↓reduceIte, Nat.reduceAdd, Nat.reduceEqDiff, Nat.reduceBEq, beq_self_eq_true, Bool.not_true, Bool.not_false, Bool.and_true, Bool.and_false, Bool.true_and, Bool.false_and, gI_sI, gI_sL, gI_sA, gI_sM, gL_sI, gL_sL, gL_sA, gL_sM, aI_sI, aI_sL, aI_sA, aI_sM, aL_sI, aL_sL, aL_sA, aL_sM, Bcharacter_0, Bcharacter_24, Bcharacter_30, Bcharacter_36, Bcharacter_42, Bcharacter_48, Bcharacter_64, Bcharacter_68, Bcharacter_69, Bcharacter_79, Bcharacter_83, Bcharacter_85, Bcharacter_103, Bcharacter_107, Bcharacter_108, oi_0, oi_1, oi_127, oi_2, oi_3, oi_32, oi_39, oi_6, oi_92]; try dsimp only
          unfold Qv_character
          try dsimp only
          refine ⟨rfl, (by repeat (first | exact LkR.rf | exact hL | refine LkR.i ?_ | refine LkR.m ?_ | refine LkR.a ?_ (by decide) | refine LkR.u3 ?_ | refine LkR.u6 ?_)), Or.inr ⟨fun q => absurd (hv.mpr q) (by lia), ?_⟩⟩
          dsimp only [Nat.beq, gI_sI, gI_sL, gI_sA, gI_sM, gL_sI, gL_sL, gL_sA, gL_sM, aI_sI, aI_sL, aI_sA, aI_sM, aL_sI, aL_sL, aL_sA, aL_sM]
          simp only [upd_eq]
        · refine hB _ _ _ _ _ (fun m10 hm10 => ?_)
          dsimp only [ugo, uwp, ust, uct, rfd, Bcharacter, Nat.beq, lv_args, rlk, rs1, rs2, rdl, rky, rcd, rno, rsw, Value.category, List.filter, List.take, List.drop, List.reverse, List.reverseAux, List.cons_append, List.nil_append, Option.toList, Int.toNat, Int.reduceToNat, if_pos, if_neg, reduceIte, ↓reduceIte, Nat.reduceAdd, Nat.reduceEqDiff, Nat.reduceBEq, beq_self_eq_true, Bool.not_true, Bool.not_false, Bool.and_true, Bool.and_false, Bool.true_and, Bool.false_and, gI_sI, gI_sL, gI_sA, gI_sM, gL_sI, gL_sL, gL_sA, gL_sM, aI_sI, aI_sL, aI_sA, aI_sM, aL_sI, aL_sL, aL_sA, aL_sM, Bcharacter_0, Bcharacter_24, Bcharacter_30, Bcharacter_36, Bcharacter_42, Bcharacter_48, Bcharacter_64, Bcharacter_68, Bcharacter_69, Bcharacter_79, Bcharacter_83, Bcharacter_85, Bcharacter_103, Bcharacter_107, Bcharacter_108, oi_0, oi_1, oi_127, oi_2, oi_3, oi_32, oi_39, oi_6, oi_92]; try dsimp only
          refine hB _ _ _ _ _ (fun m11 hm11 => ?_)
          dsimp only [ugo, uwp, ust, uct, rfd, Bcharacter, Nat.beq, lv_args, rlk, rs1, rs2, rdl, rky, rcd, rno, rsw, Value.category, List.filter, List.take, List.drop, List.reverse, List.reverseAux, List.cons_append, List.nil_append, Option.toList, Int.toNat, Int.reduceToNat, if_pos, if_neg, reduceIte, ↓reduceIte, Nat.reduceAdd, Nat.reduceEqDiff, Nat.reduceBEq, beq_self_eq_true, Bool.not_true, Bool.not_false, Bool.and_true, Bool.and_false, Bool.true_and, Bool.false_and, gI_sI, gI_sL, gI_sA, gI_sM, gL_sI, gL_sL, gL_sA, gL_sM, aI_sI, aI_sL, aI_sA, aI_sM, aL_sI, aL_sL, aL_sA, aL_sM, Bcharacter_0, Bcharacter_24, Bcharacter_30, Bcharacter_36, Bcharacter_42, Bcharacter_48, Bcharacter_64, Bcharacter_68, Bcharacter_69, Bcharacter_79, Bcharacter_83, Bcharacter_85, Bcharacter_103, Bcharacter_107, Bcharacter_108, oi_0, oi_1, oi_127, oi_2, oi_3, oi_32, oi_39, oi_6, oi_92]; try dsimp only
          unfold Qv_character
          try dsimp only
          exfalso; lia
      · refine hB _ _ _ _ _ (fun m12 hm12 => ?_)
        dsimp only [ugo, uwp, ust, uct, rfd, Bcharacter, Nat.beq, lv_args, rlk, rs1, rs2, rdl, rky, rcd, rno, rsw, Value.category, List.filter, List.take, List.drop, List.reverse, List.reverseAux, List.cons_append, List.nil_append, Option.toList, Int.toNat, Int.reduceToNat, if_pos, if_neg, reduceIte, ↓reduceIte, Nat.reduceAdd, Nat.reduceEqDiff, Nat.reduceBEq, beq_self_eq_true, Bool.not_true, Bool.not_false, Bool.and_true, Bool.and_false, Bool.true_and, Bool.false_and, gI_sI, gI_sL, gI_sA, gI_sM, gL_sI, gL_sL, gL_sA, gL_sM, aI_sI, aI_sL, aI_sA, aI_sM, aL_sI, aL_sL, aL_sA, aL_sM, Bcharacter_0, Bcharacter_24, Bcharacter_30, Bcharacter_36, Bcharacter_42, Bcharacter_48, Bcharacter_64, Bcharacter_68, Bcharacter_69, Bcharacter_79, Bcharacter_83, Bcharacter_85, Bcharacter_103, Bcharacter_107, Bcharacter_108, oi_0, oi_1, oi_127, oi_2, oi_3, oi_32, oi_39, oi_6, oi_92]; try dsimp only
        refine hB _ _ _ _ _ (fun m13 hm13 => ?_)
        dsimp only [ugo, uwp, ust, uct, rfd, Bcharacter, Nat.beq, lv_args, rlk, rs1, rs2, rdl, rky, rcd, rno, rsw, Value.category, List.filter, List.take, List.drop, List.reverse, List.reverseAux, List.cons_append, List.nil_append, Option.toList, Int.toNat, Int.reduceToNat, if_pos, if_neg, reduceIte, ↓reduceIte, Nat.reduceAdd, Nat.reduceEqDiff, Nat.reduceBEq, beq_self_eq_true, Bool.not_true, Bool.not_false, Bool.and_true, Bool.and_false, Bool.true_and, Bool.false_and, gI_sI, gI_sL, gI_sA, gI_sM, gL_sI, gL_sL, gL_sA, gL_sM, aI_sI, aI_sL, aI_sA, aI_sM, aL_sI, aL_sL, aL_sA, aL_sM, Bcharacter_0, Bcharacter_24, Bcharacter_30, Bcharacter_36, Bcharacter_42, Bcharacter_48, Bcharacter_64, Bcharacter_68, Bcharacter_69, Bcharacter_79, Bcharacter_83, Bcharacter_85, Bcharacter_103, Bcharacter_107, Bcharacter_108, oi_0, oi_1, oi_127, oi_2, oi_3, oi_32, oi_39, oi_6, oi_92]; try dsimp only
        intro p14
        intro p15
        refine ⟨fun h16 => ?_, fun h16 => ?_⟩
        · refine hB _ _ _ _ _ (fun m17 hm17 => ?_)
          dsimp only [ugo, uwp, ust, uct, rfd, Bcharacter, Nat.beq, lv_args, rlk, rs1, rs2, rdl, rky, rcd, rno, rsw, Value.category, List.filter, List.take, List.drop, List.reverse, List.reverseAux, List.cons_append, List.nil_append, Option.toList, Int.toNat, Int.reduceToNat, if_pos, if_neg, reduceIte, ↓reduceIte, Nat.reduceAdd, Nat.reduceEqDiff, Nat.reduceBEq, beq_self_eq_true, Bool.not_true, Bool.not_false, Bool.and_true, Bool.and_false, Bool.true_and, Bool.false_and, gI_sI, gI_sL, gI_sA, gI_sM, gL_sI, gL_sL, gL_sA, gL_sM, aI_sI, aI_sL, aI_sA, aI_sM, aL_sI, aL_sL, aL_sA, aL_sM, Bcharacter_0, Bcharacter_24, Bcharacter_30, Bcharacter_36, Bcharacter_42, Bcharacter_48, Bcharacter_64, Bcharacter_68, Bcharacter_69, Bcharacter_79, Bcharacter_83, Bcharacter_85, Bcharacter_103, Bcharacter_107, Bcharacter_108, oi_0, oi_1, oi_127, oi_2, oi_3, oi_32, oi_39, oi_6, oi_92]; try dsimp only
          refine hB _ _ _ _ _ (fun m18 hm18 => ?_)
          dsimp only [ugo, uwp, ust, uct, rfd, Bcharacter, Nat.beq, lv_args, rlk, rs1, rs2, rdl, rky, rcd, rno, rsw, Value.category, List.filter, List.take, List.drop, List.reverse, List.reverseAux, List.cons_append, List.nil_append, Option.toList, Int.toNat, Int.reduceToNat, if_pos, if_neg, reduceIte, ↓reduceIte, Nat.reduceAdd, Nat.reduceEqDiff, Nat.reduceBEq, beq_self_eq_true, Bool.not_true, Bool.not_false, Bool.and_true, Bool.and_false, Bool.true_and, Bool.false_and, gI_sI, gI_sL, gI_sA, gI_sM, gL_sI, gL_sL, gL_sA, gL_sM, aI_sI, aI_sL, aI_sA, aI_sM, aL_sI, aL_sL, aL_sA, aL_sM, Bcharacter_0, Bcharacter_24, Bcharacter_30, Bcharacter_36, Bcharacter_42, Bcharacter_48, Bcharacter_64, Bcharacter_68, Bcharacter_69, Bcharacter_79, Bcharacter_83, Bcharacter_85, Bcharacter_103, Bcharacter_107, Bcharacter_108, oi_0, oi_1, oi_127, oi_2, oi_3, oi_32, oi_39, oi_6, oi_92]; try dsimp only
          unfold Qv_character
          try dsimp only
          exfalso; lia
        · refine hB _ _ _ _ _ (fun m19 hm19 => ?_)
          dsimp only [ugo, uwp, ust, uct, rfd, Bcharacter, Nat.beq, lv_args, rlk, rs1, rs2, rdl, rky, rcd, rno, rsw, Value.category, List.filter, List.take, List.drop, List.reverse, List.reverseAux, List.cons_append, List.nil_append, Option.toList, Int.toNat, Int.reduceToNat, if_pos, if_neg, reduceIte, ↓reduceIte, Nat.reduceAdd, Nat.reduceEqDiff, Nat.reduceBEq, beq_self_eq_true, Bool.not_true, Bool.not_false, Bool.and_true, Bool.and_false, Bool.true_and, Bool.false_and, gI_sI, gI_sL, gI_sA, gI_sM, gL_sI, gL_sL, gL_sA, gL_sM, aI_sI, aI_sL, aI_sA, aI_sM, aL_sI, aL_sL, aL_sA, aL_sM, Bcharacter_0, Bcharacter_24, Bcharacter_30, Bcharacter_36, Bcharacter_42, Bcharacter_48, Bcharacter_64, Bcharacter_68, Bcharacter_69, Bcharacter_79, Bcharacter_83, Bcharacter_85, Bcharacter_103, Bcharacter_107, Bcharacter_108, oi_0, oi_1, oi_127, oi_2, oi_3, oi_32, oi_39, oi_6, oi_92]; try dsimp only
          refine hB _ _ _ _ _ (fun m20 hm20 => ?_)
          dsimp only [ugo, uwp, ust, uct, rfd, Bcharacter, Nat.beq, lv_args, rlk, rs1, rs2, rdl, rky, rcd, rno, rsw, Value.category, List.filter, List.take, List.drop, List.reverse, List.reverseAux, List.cons_append, List.nil_append, Option.toList, Int.toNat, Int.reduceToNat, if_pos, if_neg, reduceIte, ↓reduceIte, Nat.reduceAdd, Nat.reduceEqDiff, Nat.reduceBEq, beq_self_eq_true, Bool.not_true, Bool.not_false, Bool.and_true, Bool.and_false, Bool.true_and, Bool.false_and, gI_sI, gI_sL, gI_sA, gI_sM, gL_sI, gL_sL, gL_sA, gL_sM, aI_sI, aI_sL, aI_sA, aI_sM, aL_sI, aL_sL, aL_sA, aL_sM, Bcharacter_0, Bcharacter_24, Bcharacter_30, Bcharacter_36, Bcharacter_42, Bcharacter_48, Bcharacter_64, Bcharacter_68, Bcharacter_69, Bcharacter_79, Bcharacter_83, Bcharacter_85, Bcharacter_103, Bcharacter_107, Bcharacter_108, oi_0, oi_1, oi_127, oi_2, oi_3, oi_32, oi_39, oi_6, oi_92]; try dsimp only
          unfold Qv_character
          try dsimp only
          refine ⟨rfl, (by repeat (first | exact LkR.rf | exact hL | refine LkR.i ?_ | refine LkR.m ?_ | refine LkR.a ?_ (by decide) | refine LkR.u3 ?_ | refine LkR.u6 ?_)), Or.inl ⟨hv.mp (by lia), ?_, ?_⟩⟩
          · dsimp only [Nat.beq, gI_sI, gI_sL, gI_sA, gI_sM, gL_sI, gL_sL, gL_sA, gL_sM, aI_sI, aI_sL, aI_sA, aI_sM, aL_sI, aL_sL, aL_sA, aL_sM]
            simp only [upd_eq]
          · show (gI σ 13 + 3).toInt = _
            exact i32_pk (k := 3) hs0 (by omega) (by omega) (by decide) (by decide)
    intro n0_
    refine hB _ _ _ _ _ (fun m1 hm1 => ?_)
    dsimp only [ugo, uwp, ust, uct, rfd, Bcharacter, Nat.beq, lv_args, rlk, rs1, rs2, rdl, rky, rcd, rno, rsw, Value.category, List.filter, List.take, List.drop, List.reverse, List.reverseAux, List.cons_append, List.nil_append, Option.toList, Int.toNat, Int.reduceToNat, if_pos, if_neg, reduceIte, ↓reduceIte, Nat.reduceAdd, Nat.reduceEqDiff, Nat.reduceBEq, beq_self_eq_true, Bool.not_true, Bool.not_false, Bool.and_true, Bool.and_false, Bool.true_and, Bool.false_and, gI_sI, gI_sL, gI_sA, gI_sM, gL_sI, gL_sL, gL_sA, gL_sM, aI_sI, aI_sL, aI_sA, aI_sM, aL_sI, aL_sL, aL_sA, aL_sM, Bcharacter_0, Bcharacter_24, Bcharacter_30, Bcharacter_36, Bcharacter_42, Bcharacter_48, Bcharacter_64, Bcharacter_68, Bcharacter_69, Bcharacter_79, Bcharacter_83, Bcharacter_85, Bcharacter_103, Bcharacter_107, Bcharacter_108, oi_0, oi_1, oi_127, oi_2, oi_3, oi_32, oi_39, oi_6, oi_92]; try dsimp only
    refine ⟨trivial, fun w2 τ2 hq2 => ?_⟩
    obtain ⟨rfl, r2, rfl, hr2⟩ := hq2 trivial
    dsimp only [Option.toList, List.cons_append, List.nil_append, Nat.beq, gI_sI, gI_sL, gI_sA, gI_sM, gL_sI, gL_sL, gL_sA, gL_sM, aI_sI, aI_sL, aI_sA, aI_sM, aL_sI, aL_sL, aL_sA, aL_sM]
    have ha2 := hr2 x hT0
    refine ⟨fun h3 => ?_, fun h3 => ?_⟩
    · refine hB _ _ _ _ _ (fun m4 hm4 => ?_)
      dsimp only [ugo, uwp, ust, uct, rfd, Bcharacter, Nat.beq, lv_args, rlk, rs1, rs2, rdl, rky, rcd, rno, rsw, Value.category, List.filter, List.take, List.drop, List.reverse, List.reverseAux, List.cons_append, List.nil_append, Option.toList, Int.toNat, Int.reduceToNat, if_pos, if_neg, reduceIte, ↓reduceIte, Nat.reduceAdd, Nat.reduceEqDiff, Nat.reduceBEq, beq_self_eq_true, Bool.not_true, Bool.not_false, Bool.and_true, Bool.and_false, Bool.true_and, Bool.false_and, gI_sI, gI_sL, gI_sA, gI_sM, gL_sI, gL_sL, gL_sA, gL_sM, aI_sI, aI_sL, aI_sA, aI_sM, aL_sI, aL_sL, aL_sA, aL_sM, Bcharacter_0, Bcharacter_24, Bcharacter_30, Bcharacter_36, Bcharacter_42, Bcharacter_48, Bcharacter_64, Bcharacter_68, Bcharacter_69, Bcharacter_79, Bcharacter_83, Bcharacter_85, Bcharacter_103, Bcharacter_107, Bcharacter_108, oi_0, oi_1, oi_127, oi_2, oi_3, oi_32, oi_39, oi_6, oi_92]; try dsimp only
      have e1 : (gI σ 13 + 1).toInt = i + 1 := i32_pk (k := 1) hs0 (by omega) (by omega) (by decide) (by decide)
      have e2 : (gI σ 13 + 2).toInt = i + 2 := i32_pk (k := 2) hs0 (by omega) (by omega) (by decide) (by decide)
      rw [e1] at ha2
      have q32 := i32_le (k := 32) r2
      have q127 := i32_le (k := 127) r2
      have q39 := i32_r (v := r2) (k := 39) ha2 (by decide) (by decide)
      have q92 := i32_r (v := r2) (k := 92) ha2 (by decide) (by decide)
      have f1 : ¬ i + 2 < x.2 := fun z => absurd (Int32.lt_iff_toInt_lt.mpr (by rw [e2, hT0.1]; exact z)) (show ¬ gI σ 13 + 2 < gI σ 12 by lia)
      have f6 : btY x (i + 2) = -1 := bt_out f1
      have g1 : atR r2.toInt (btY x (i + 1)) := ha2
      unfold atR at g1
      exact hW _ 69 [(0, .ref 1000), (1, .int t), (2, .int r2)] _ _ _ (by simp [rdl, rky]) (t69 _ r2 0 ⟨fun q => absurd rfl q, fun q => by exfalso; omega⟩)
    · refine hB _ _ _ _ _ (fun m5 hm5 => ?_)
      dsimp only [ugo, uwp, ust, uct, rfd, Bcharacter, Nat.beq, lv_args, rlk, rs1, rs2, rdl, rky, rcd, rno, rsw, Value.category, List.filter, List.take, List.drop, List.reverse, List.reverseAux, List.cons_append, List.nil_append, Option.toList, Int.toNat, Int.reduceToNat, if_pos, if_neg, reduceIte, ↓reduceIte, Nat.reduceAdd, Nat.reduceEqDiff, Nat.reduceBEq, beq_self_eq_true, Bool.not_true, Bool.not_false, Bool.and_true, Bool.and_false, Bool.true_and, Bool.false_and, gI_sI, gI_sL, gI_sA, gI_sM, gL_sI, gL_sL, gL_sA, gL_sM, aI_sI, aI_sL, aI_sA, aI_sM, aL_sI, aL_sL, aL_sA, aL_sM, Bcharacter_0, Bcharacter_24, Bcharacter_30, Bcharacter_36, Bcharacter_42, Bcharacter_48, Bcharacter_64, Bcharacter_68, Bcharacter_69, Bcharacter_79, Bcharacter_83, Bcharacter_85, Bcharacter_103, Bcharacter_107, Bcharacter_108, oi_0, oi_1, oi_127, oi_2, oi_3, oi_32, oi_39, oi_6, oi_92]; try dsimp only
      refine ⟨fun h6 => ?_, fun h6 => ?_⟩
      · refine hB _ _ _ _ _ (fun m7 hm7 => ?_)
        dsimp only [ugo, uwp, ust, uct, rfd, Bcharacter, Nat.beq, lv_args, rlk, rs1, rs2, rdl, rky, rcd, rno, rsw, Value.category, List.filter, List.take, List.drop, List.reverse, List.reverseAux, List.cons_append, List.nil_append, Option.toList, Int.toNat, Int.reduceToNat, if_pos, if_neg, reduceIte, ↓reduceIte, Nat.reduceAdd, Nat.reduceEqDiff, Nat.reduceBEq, beq_self_eq_true, Bool.not_true, Bool.not_false, Bool.and_true, Bool.and_false, Bool.true_and, Bool.false_and, gI_sI, gI_sL, gI_sA, gI_sM, gL_sI, gL_sL, gL_sA, gL_sM, aI_sI, aI_sL, aI_sA, aI_sM, aL_sI, aL_sL, aL_sA, aL_sM, Bcharacter_0, Bcharacter_24, Bcharacter_30, Bcharacter_36, Bcharacter_42, Bcharacter_48, Bcharacter_64, Bcharacter_68, Bcharacter_69, Bcharacter_79, Bcharacter_83, Bcharacter_85, Bcharacter_103, Bcharacter_107, Bcharacter_108, oi_0, oi_1, oi_127, oi_2, oi_3, oi_32, oi_39, oi_6, oi_92]; try dsimp only
        have e1 : (gI σ 13 + 1).toInt = i + 1 := i32_pk (k := 1) hs0 (by omega) (by omega) (by decide) (by decide)
        have e2 : (gI σ 13 + 2).toInt = i + 2 := i32_pk (k := 2) hs0 (by omega) (by omega) (by decide) (by decide)
        rw [e1] at ha2
        have q32 := i32_le (k := 32) r2
        have q127 := i32_le (k := 127) r2
        have q39 := i32_r (v := r2) (k := 39) ha2 (by decide) (by decide)
        have q92 := i32_r (v := r2) (k := 92) ha2 (by decide) (by decide)
        have f1 : i + 2 < x.2 := by have z := Int32.lt_iff_toInt_lt.mp (show gI σ 13 + 2 < gI σ 12 by lia); rw [e2, hT0.1] at z; exact z
        have f2 : ¬ 32 ≤ r2.toInt := fun z => absurd (q32.mpr z) (by lia)
        have g1 : atR r2.toInt (btY x (i + 1)) := ha2
        unfold atR at g1
        exact hW _ 69 [(0, .ref 1000), (1, .int t), (2, .int r2)] _ _ _ (by simp [rdl, rky]) (t69 _ r2 0 ⟨fun q => absurd rfl q, fun q => by exfalso; omega⟩)
      · refine hB _ _ _ _ _ (fun m8 hm8 => ?_)
        dsimp only [ugo, uwp, ust, uct, rfd, Bcharacter, Nat.beq, lv_args, rlk, rs1, rs2, rdl, rky, rcd, rno, rsw, Value.category, List.filter, List.take, List.drop, List.reverse, List.reverseAux, List.cons_append, List.nil_append, Option.toList, Int.toNat, Int.reduceToNat, if_pos, if_neg, reduceIte, ↓reduceIte, Nat.reduceAdd, Nat.reduceEqDiff, Nat.reduceBEq, beq_self_eq_true, Bool.not_true, Bool.not_false, Bool.and_true, Bool.and_false, Bool.true_and, Bool.false_and, gI_sI, gI_sL, gI_sA, gI_sM, gL_sI, gL_sL, gL_sA, gL_sM, aI_sI, aI_sL, aI_sA, aI_sM, aL_sI, aL_sL, aL_sA, aL_sM, Bcharacter_0, Bcharacter_24, Bcharacter_30, Bcharacter_36, Bcharacter_42, Bcharacter_48, Bcharacter_64, Bcharacter_68, Bcharacter_69, Bcharacter_79, Bcharacter_83, Bcharacter_85, Bcharacter_103, Bcharacter_107, Bcharacter_108, oi_0, oi_1, oi_127, oi_2, oi_3, oi_32, oi_39, oi_6, oi_92]; try dsimp only
        refine ⟨fun h9 => ?_, fun h9 => ?_⟩
        · refine hB _ _ _ _ _ (fun m10 hm10 => ?_)
          dsimp only [ugo, uwp, ust, uct, rfd, Bcharacter, Nat.beq, lv_args, rlk, rs1, rs2, rdl, rky, rcd, rno, rsw, Value.category, List.filter, List.take, List.drop, List.reverse, List.reverseAux, List.cons_append, List.nil_append, Option.toList, Int.toNat, Int.reduceToNat, if_pos, if_neg, reduceIte, ↓reduceIte, Nat.reduceAdd, Nat.reduceEqDiff, Nat.reduceBEq, beq_self_eq_true, Bool.not_true, Bool.not_false, Bool.and_true, Bool.and_false, Bool.true_and, Bool.false_and, gI_sI, gI_sL, gI_sA, gI_sM, gL_sI, gL_sL, gL_sA, gL_sM, aI_sI, aI_sL, aI_sA, aI_sM, aL_sI, aL_sL, aL_sA, aL_sM, Bcharacter_0, Bcharacter_24, Bcharacter_30, Bcharacter_36, Bcharacter_42, Bcharacter_48, Bcharacter_64, Bcharacter_68, Bcharacter_69, Bcharacter_79, Bcharacter_83, Bcharacter_85, Bcharacter_103, Bcharacter_107, Bcharacter_108, oi_0, oi_1, oi_127, oi_2, oi_3, oi_32, oi_39, oi_6, oi_92]; try dsimp only
          have e1 : (gI σ 13 + 1).toInt = i + 1 := i32_pk (k := 1) hs0 (by omega) (by omega) (by decide) (by decide)
          have e2 : (gI σ 13 + 2).toInt = i + 2 := i32_pk (k := 2) hs0 (by omega) (by omega) (by decide) (by decide)
          rw [e1] at ha2
          have q32 := i32_le (k := 32) r2
          have q127 := i32_le (k := 127) r2
          have q39 := i32_r (v := r2) (k := 39) ha2 (by decide) (by decide)
          have q92 := i32_r (v := r2) (k := 92) ha2 (by decide) (by decide)
          have f1 : i + 2 < x.2 := by have z := Int32.lt_iff_toInt_lt.mp (show gI σ 13 + 2 < gI σ 12 by lia); rw [e2, hT0.1] at z; exact z
          have f2 : 32 ≤ r2.toInt := q32.mp (by lia)
          have f3 : 127 ≤ r2.toInt := q127.mp (by lia)
          have g1 : atR r2.toInt (btY x (i + 1)) := ha2
          unfold atR at g1
          exact hW _ 69 [(0, .ref 1000), (1, .int t), (2, .int r2)] _ _ _ (by simp [rdl, rky]) (t69 _ r2 0 ⟨fun q => absurd rfl q, fun q => by exfalso; omega⟩)
        · refine hB _ _ _ _ _ (fun m11 hm11 => ?_)
          dsimp only [ugo, uwp, ust, uct, rfd, Bcharacter, Nat.beq, lv_args, rlk, rs1, rs2, rdl, rky, rcd, rno, rsw, Value.category, List.filter, List.take, List.drop, List.reverse, List.reverseAux, List.cons_append, List.nil_append, Option.toList, Int.toNat, Int.reduceToNat, if_pos, if_neg, reduceIte, ↓reduceIte, Nat.reduceAdd, Nat.reduceEqDiff, Nat.reduceBEq, beq_self_eq_true, Bool.not_true, Bool.not_false, Bool.and_true, Bool.and_false, Bool.true_and, Bool.false_and, gI_sI, gI_sL, gI_sA, gI_sM, gL_sI, gL_sL, gL_sA, gL_sM, aI_sI, aI_sL, aI_sA, aI_sM, aL_sI, aL_sL, aL_sA, aL_sM, Bcharacter_0, Bcharacter_24, Bcharacter_30, Bcharacter_36, Bcharacter_42, Bcharacter_48, Bcharacter_64, Bcharacter_68, Bcharacter_69, Bcharacter_79, Bcharacter_83, Bcharacter_85, Bcharacter_103, Bcharacter_107, Bcharacter_108, oi_0, oi_1, oi_127, oi_2, oi_3, oi_32, oi_39, oi_6, oi_92]; try dsimp only
          refine ⟨fun h12 => ?_, fun h12 => ?_⟩
          · refine hB _ _ _ _ _ (fun m13 hm13 => ?_)
            dsimp only [ugo, uwp, ust, uct, rfd, Bcharacter, Nat.beq, lv_args, rlk, rs1, rs2, rdl, rky, rcd, rno, rsw, Value.category, List.filter, List.take, List.drop, List.reverse, List.reverseAux, List.cons_append, List.nil_append, Option.toList, Int.toNat, Int.reduceToNat, if_pos, if_neg, reduceIte, ↓reduceIte, Nat.reduceAdd, Nat.reduceEqDiff, Nat.reduceBEq, beq_self_eq_true, Bool.not_true, Bool.not_false, Bool.and_true, Bool.and_false, Bool.true_and, Bool.false_and, gI_sI, gI_sL, gI_sA, gI_sM, gL_sI, gL_sL, gL_sA, gL_sM, aI_sI, aI_sL, aI_sA, aI_sM, aL_sI, aL_sL, aL_sA, aL_sM, Bcharacter_0, Bcharacter_24, Bcharacter_30, Bcharacter_36, Bcharacter_42, Bcharacter_48, Bcharacter_64, Bcharacter_68, Bcharacter_69, Bcharacter_79, Bcharacter_83, Bcharacter_85, Bcharacter_103, Bcharacter_107, Bcharacter_108, oi_0, oi_1, oi_127, oi_2, oi_3, oi_32, oi_39, oi_6, oi_92]; try dsimp only
            have e1 : (gI σ 13 + 1).toInt = i + 1 := i32_pk (k := 1) hs0 (by omega) (by omega) (by decide) (by decide)
            have e2 : (gI σ 13 + 2).toInt = i + 2 := i32_pk (k := 2) hs0 (by omega) (by omega) (by decide) (by decide)
            rw [e1] at ha2
            have q32 := i32_le (k := 32) r2
            have q127 := i32_le (k := 127) r2
            have q39 := i32_r (v := r2) (k := 39) ha2 (by decide) (by decide)
            have q92 := i32_r (v := r2) (k := 92) ha2 (by decide) (by decide)
            have f1 : i + 2 < x.2 := by have z := Int32.lt_iff_toInt_lt.mp (show gI σ 13 + 2 < gI σ 12 by lia); rw [e2, hT0.1] at z; exact z
            have f2 : 32 ≤ r2.toInt := q32.mp (by lia)
            have f3 : ¬ 127 ≤ r2.toInt := fun z => absurd (q127.mpr z) (by lia)
            have f4 : btY x (i + 1) = 39 := q39.mp (by lia)
            have g1 : atR r2.toInt (btY x (i + 1)) := ha2
            unfold atR at g1
            exact hW _ 69 [(0, .ref 1000), (1, .int t), (2, .int r2)] _ _ _ (by simp [rdl, rky]) (t69 _ r2 0 ⟨fun q => absurd rfl q, fun q => by exfalso; omega⟩)
          · refine hB _ _ _ _ _ (fun m14 hm14 => ?_)
            dsimp only [ugo, uwp, ust, uct, rfd, Bcharacter, Nat.beq, lv_args, rlk, rs1, rs2, rdl, rky, rcd, rno, rsw, Value.category, List.filter, List.take, List.drop, List.reverse, List.reverseAux, List.cons_append, List.nil_append, Option.toList, Int.toNat, Int.reduceToNat, if_pos, if_neg, reduceIte, ↓reduceIte, Nat.reduceAdd, Nat.reduceEqDiff, Nat.reduceBEq, beq_self_eq_true, Bool.not_true, Bool.not_false, Bool.and_true, Bool.and_false, Bool.true_and, Bool.false_and, gI_sI, gI_sL, gI_sA, gI_sM, gL_sI, gL_sL, gL_sA, gL_sM, aI_sI, aI_sL, aI_sA, aI_sM, aL_sI, aL_sL, aL_sA, aL_sM, Bcharacter_0, Bcharacter_24, Bcharacter_30, Bcharacter_36, Bcharacter_42, Bcharacter_48, Bcharacter_64, Bcharacter_68, Bcharacter_69, Bcharacter_79, Bcharacter_83, Bcharacter_85, Bcharacter_103, Bcharacter_107, Bcharacter_108, oi_0, oi_1, oi_127, oi_2, oi_3, oi_32, oi_39, oi_6, oi_92]; try dsimp only
            refine ⟨fun h15 => ?_, fun h15 => ?_⟩
            · refine hB _ _ _ _ _ (fun m16 hm16 => ?_)
              dsimp only [ugo, uwp, ust, uct, rfd, Bcharacter, Nat.beq, lv_args, rlk, rs1, rs2, rdl, rky, rcd, rno, rsw, Value.category, List.filter, List.take, List.drop, List.reverse, List.reverseAux, List.cons_append, List.nil_append, Option.toList, Int.toNat, Int.reduceToNat, if_pos, if_neg, reduceIte, ↓reduceIte, Nat.reduceAdd, Nat.reduceEqDiff, Nat.reduceBEq, beq_self_eq_true, Bool.not_true, Bool.not_false, Bool.and_true, Bool.and_false, Bool.true_and, Bool.false_and, gI_sI, gI_sL, gI_sA, gI_sM, gL_sI, gL_sL, gL_sA, gL_sM, aI_sI, aI_sL, aI_sA, aI_sM, aL_sI, aL_sL, aL_sA, aL_sM, Bcharacter_0, Bcharacter_24, Bcharacter_30, Bcharacter_36, Bcharacter_42, Bcharacter_48, Bcharacter_64, Bcharacter_68, Bcharacter_69, Bcharacter_79, Bcharacter_83, Bcharacter_85, Bcharacter_103, Bcharacter_107, Bcharacter_108, oi_0, oi_1, oi_127, oi_2, oi_3, oi_32, oi_39, oi_6, oi_92]; try dsimp only
              have e1 : (gI σ 13 + 1).toInt = i + 1 := i32_pk (k := 1) hs0 (by omega) (by omega) (by decide) (by decide)
              have e2 : (gI σ 13 + 2).toInt = i + 2 := i32_pk (k := 2) hs0 (by omega) (by omega) (by decide) (by decide)
              rw [e1] at ha2
              have q32 := i32_le (k := 32) r2
              have q127 := i32_le (k := 127) r2
              have q39 := i32_r (v := r2) (k := 39) ha2 (by decide) (by decide)
              have q92 := i32_r (v := r2) (k := 92) ha2 (by decide) (by decide)
              have f1 : i + 2 < x.2 := by have z := Int32.lt_iff_toInt_lt.mp (show gI σ 13 + 2 < gI σ 12 by lia); rw [e2, hT0.1] at z; exact z
              have f2 : 32 ≤ r2.toInt := q32.mp (by lia)
              have f3 : ¬ 127 ≤ r2.toInt := fun z => absurd (q127.mpr z) (by lia)
              have f4 : ¬ btY x (i + 1) = 39 := fun z => absurd (q39.mpr z) (by lia)
              have f5 : btY x (i + 1) = 92 := q92.mp (by lia)
              have g1 : atR r2.toInt (btY x (i + 1)) := ha2
              unfold atR at g1
              exact hW _ 69 [(0, .ref 1000), (1, .int t), (2, .int r2)] _ _ _ (by simp [rdl, rky]) (t69 _ r2 0 ⟨fun q => absurd rfl q, fun q => by exfalso; omega⟩)
            · refine hB _ _ _ _ _ (fun m17 hm17 => ?_)
              dsimp only [ugo, uwp, ust, uct, rfd, Bcharacter, Nat.beq, lv_args, rlk, rs1, rs2, rdl, rky, rcd, rno, rsw, Value.category, List.filter, List.take, List.drop, List.reverse, List.reverseAux, List.cons_append, List.nil_append, Option.toList, Int.toNat, Int.reduceToNat, if_pos, if_neg, reduceIte, ↓reduceIte, Nat.reduceAdd, Nat.reduceEqDiff, Nat.reduceBEq, beq_self_eq_true, Bool.not_true, Bool.not_false, Bool.and_true, Bool.and_false, Bool.true_and, Bool.false_and, gI_sI, gI_sL, gI_sA, gI_sM, gL_sI, gL_sL, gL_sA, gL_sM, aI_sI, aI_sL, aI_sA, aI_sM, aL_sI, aL_sL, aL_sA, aL_sM, Bcharacter_0, Bcharacter_24, Bcharacter_30, Bcharacter_36, Bcharacter_42, Bcharacter_48, Bcharacter_64, Bcharacter_68, Bcharacter_69, Bcharacter_79, Bcharacter_83, Bcharacter_85, Bcharacter_103, Bcharacter_107, Bcharacter_108, oi_0, oi_1, oi_127, oi_2, oi_3, oi_32, oi_39, oi_6, oi_92]; try dsimp only
              intro p18
              refine ⟨fun h19 => ?_, fun h19 => ?_⟩
              · refine hB _ _ _ _ _ (fun m20 hm20 => ?_)
                dsimp only [ugo, uwp, ust, uct, rfd, Bcharacter, Nat.beq, lv_args, rlk, rs1, rs2, rdl, rky, rcd, rno, rsw, Value.category, List.filter, List.take, List.drop, List.reverse, List.reverseAux, List.cons_append, List.nil_append, Option.toList, Int.toNat, Int.reduceToNat, if_pos, if_neg, reduceIte, ↓reduceIte, Nat.reduceAdd, Nat.reduceEqDiff, Nat.reduceBEq, beq_self_eq_true, Bool.not_true, Bool.not_false, Bool.and_true, Bool.and_false, Bool.true_and, Bool.false_and, gI_sI, gI_sL, gI_sA, gI_sM, gL_sI, gL_sL, gL_sA, gL_sM, aI_sI, aI_sL, aI_sA, aI_sM, aL_sI, aL_sL, aL_sA, aL_sM, Bcharacter_0, Bcharacter_24, Bcharacter_30, Bcharacter_36, Bcharacter_42, Bcharacter_48, Bcharacter_64, Bcharacter_68, Bcharacter_69, Bcharacter_79, Bcharacter_83, Bcharacter_85, Bcharacter_103, Bcharacter_107, Bcharacter_108, oi_0, oi_1, oi_127, oi_2, oi_3, oi_32, oi_39, oi_6, oi_92]; try dsimp only
                have e1 : (gI σ 13 + 1).toInt = i + 1 := i32_pk (k := 1) hs0 (by omega) (by omega) (by decide) (by decide)
                have e2 : (gI σ 13 + 2).toInt = i + 2 := i32_pk (k := 2) hs0 (by omega) (by omega) (by decide) (by decide)
                rw [e1] at ha2
                have q32 := i32_le (k := 32) r2
                have q127 := i32_le (k := 127) r2
                have q39 := i32_r (v := r2) (k := 39) ha2 (by decide) (by decide)
                have q92 := i32_r (v := r2) (k := 92) ha2 (by decide) (by decide)
                have f1 : i + 2 < x.2 := by have z := Int32.lt_iff_toInt_lt.mp (show gI σ 13 + 2 < gI σ 12 by lia); rw [e2, hT0.1] at z; exact z
                have f2 : 32 ≤ r2.toInt := q32.mp (by lia)
                have f3 : ¬ 127 ≤ r2.toInt := fun z => absurd (q127.mpr z) (by lia)
                have f4 : ¬ btY x (i + 1) = 39 := fun z => absurd (q39.mpr z) (by lia)
                have f5 : ¬ btY x (i + 1) = 92 := fun z => absurd (q92.mpr z) (by lia)
                have z9 := hT0.at0 (k := gI σ 13 + 2) (Int32.le_iff_toInt_le.mpr (by rw [e2]; show 0 ≤ i + 2; omega)) (by lia)
                rw [e2] at z9
                have z8 := i32_k z9 39
                have f6 : ¬ btY x (i + 2) = 39 := fun z => absurd (z8.mpr z) (by lia)
                have g1 : atR r2.toInt (btY x (i + 1)) := ha2
                unfold atR at g1
                exact hW _ 69 [(0, .ref 1000), (1, .int t), (2, .int r2)] _ _ _ (by simp [rdl, rky]) (t69 _ r2 0 ⟨fun q => absurd rfl q, fun q => by exfalso; omega⟩)
              · refine hB _ _ _ _ _ (fun m21 hm21 => ?_)
                dsimp only [ugo, uwp, ust, uct, rfd, Bcharacter, Nat.beq, lv_args, rlk, rs1, rs2, rdl, rky, rcd, rno, rsw, Value.category, List.filter, List.take, List.drop, List.reverse, List.reverseAux, List.cons_append, List.nil_append, Option.toList, Int.toNat, Int.reduceToNat, if_pos, if_neg, reduceIte, ↓reduceIte, Nat.reduceAdd, Nat.reduceEqDiff, Nat.reduceBEq, beq_self_eq_true, Bool.not_true, Bool.not_false, Bool.and_true, Bool.and_false, Bool.true_and, Bool.false_and, gI_sI, gI_sL, gI_sA, gI_sM, gL_sI, gL_sL, gL_sA, gL_sM, aI_sI, aI_sL, aI_sA, aI_sM, aL_sI, aL_sL, aL_sA, aL_sM, Bcharacter_0, Bcharacter_24, Bcharacter_30, Bcharacter_36, Bcharacter_42, Bcharacter_48, Bcharacter_64, Bcharacter_68, Bcharacter_69, Bcharacter_79, Bcharacter_83, Bcharacter_85, Bcharacter_103, Bcharacter_107, Bcharacter_108, oi_0, oi_1, oi_127, oi_2, oi_3, oi_32, oi_39, oi_6, oi_92]; try dsimp only
                have e1 : (gI σ 13 + 1).toInt = i + 1 := i32_pk (k := 1) hs0 (by omega) (by omega) (by decide) (by decide)
                have e2 : (gI σ 13 + 2).toInt = i + 2 := i32_pk (k := 2) hs0 (by omega) (by omega) (by decide) (by decide)
                rw [e1] at ha2
                have q32 := i32_le (k := 32) r2
                have q127 := i32_le (k := 127) r2
                have q39 := i32_r (v := r2) (k := 39) ha2 (by decide) (by decide)
                have q92 := i32_r (v := r2) (k := 92) ha2 (by decide) (by decide)
                have f1 : i + 2 < x.2 := by have z := Int32.lt_iff_toInt_lt.mp (show gI σ 13 + 2 < gI σ 12 by lia); rw [e2, hT0.1] at z; exact z
                have f2 : 32 ≤ r2.toInt := q32.mp (by lia)
                have f3 : ¬ 127 ≤ r2.toInt := fun z => absurd (q127.mpr z) (by lia)
                have f4 : ¬ btY x (i + 1) = 39 := fun z => absurd (q39.mpr z) (by lia)
                have f5 : ¬ btY x (i + 1) = 92 := fun z => absurd (q92.mpr z) (by lia)
                have z9 := hT0.at0 (k := gI σ 13 + 2) (Int32.le_iff_toInt_le.mpr (by rw [e2]; show 0 ≤ i + 2; omega)) (by lia)
                rw [e2] at z9
                have z8 := i32_k z9 39
                have f6 : btY x (i + 2) = 39 := z8.mp (by lia)
                have g1 : atR r2.toInt (btY x (i + 1)) := ha2
                unfold atR at g1
                exact hW _ 69 [(0, .ref 1000), (1, .int t), (2, .int r2)] _ _ _ (by simp [rdl, rky]) (t69 _ r2 1 ⟨fun _ => by omega, fun _ => by decide⟩)
  next => exact hP.elim
theorem w_character : UMet 10 (fun _ _ => True) Qw_character := fun A1 σ _ w τ h x i hP => v_character x i A1 σ hP w τ h
