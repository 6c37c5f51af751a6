def LQ (σ τ : RS) : Prop := (∀ k, gI τ k = gI σ k) ∧ (∀ k, gL τ k = gL σ k) ∧ (∀ k, k ≠ 125 → k ≠ 126 → aI τ k = aI σ k) ∧ (∀ k, aL τ k = aL σ k) ∧ ∀ p, p < nT (gI σ 18) → isl (nT (aI σ 19 p)) → LD σ τ p (nT (gI σ 18))
theorem LV2.fin {σ X : RS} {c : Nat} {n : Int32} (hK : PK σ) (h : LV2 σ X c n) (hc : nT (gI σ 18) ≤ c) (hg : ∀ k, gL X k = gL σ k) (hl : ∀ k, aL X k = aL σ k) : LQ σ X := by
  obtain ⟨h1, h2, h3, E, e1, -, -, hL⟩ := h
  have hcc : c = nT (gI σ 18) := by omega
  subst hcc
  obtain ⟨f, k, j, hp⟩ := hK
  have hE : Es (aI σ 19) (aI σ 20) (aI σ 21) (nT (gI σ 18)) = some [] := hp.2.1
  obtain rfl : E = [] := Option.some.inj (e1.symm.trans hE)
  refine ⟨h1, hg, h2, hl, fun p hp hi => ?_⟩
  rcases hL p hp hi with ⟨l, k, r, y, -⟩ | y
  · cases l <;> cases y
  · exact y
theorem LV2.nb {σ X : RS} {c : Nat} {n : Int32} (hK : PK σ) (h : LV2 σ X c n) (hc : c < nT (gI σ 18)) : 0 ≤ n ∧ n ≤ 251 := by
  obtain ⟨h1, h2, h3, E, e1, ⟨n0, n1⟩, -⟩ := h
  obtain ⟨E0, E', s0, s', p⟩ := hK.j.pc hc
  obtain rfl : E0 = E := Option.some.inj (p.he.symm.trans e1)
  have hle := no_le E0
  have hl := p.le
  exact ⟨n0, i32 (n := 251) n0 (by omega) 251 (by decide) (by decide)⟩
def P_links : RP := fun As σ => match As with
  | [] => PK σ
  | _ => False
def Q_links : RQ := fun As σ w τ => match As with
  | [] => w = none ∧ LQ σ τ
  | _ => False
set_option maxRecDepth 100000 in
set_option maxHeartbeats 4000000 in
theorem m_links (l : Launch) : RMet l 1 142 P_links Q_links := by
  refine RMet.by Blinks [] rolinks okBlinks ct0 ?_ ?_
  · intro As σ hP
    unfold P_links at hP
    split at hP
    next => exact Nat.le_of_ble_eq_true rfl
    next => exact hP.elim
  · intro As σ hP G hB hW
    unfold P_links at hP
    split at hP
    next => 
      unfold Q_links at hB
      dsimp only at hB
      have n18 : 0 ≤ gI σ 18 := by
        obtain ⟨fk, kk, jk, hpk⟩ := hP
        exact hpk.nums.2.1.1
      have loop : ∀ z : Nat, ∀ (X : RS) (n c : Int32), (4000 - c.toInt).toNat = z → 0 ≤ c → LV2 σ X (nT c) n → (∀ k, gL X k = gL σ k) → (∀ k, aL X k = aL σ k) → G 4 [(0, .ref 1000), (1, .int n), (2, .int c)] [] X := by
        intro z
        induction z using Nat.strongRecOn with
        | ind z loop =>
          intro X n c hk h0 hv hg hl
          apply hB
          dsimp only [rgo, rfd, Blinks, Nat.beq, rwp, rst, lv_args, rlk, rs1, rs2, rdl, rky, rct, rcs, rcd, rno, rsw, Value.category, List.filter, List.take, List.drop, List.reverse, List.reverseAux, List.cons_append, List.nil_append, Option.toList, Int.toNat, Int.reduceToNat, if_pos, if_neg, reduceIte, ↓reduceIte, Nat.reduceAdd, Nat.reduceEqDiff, Nat.reduceBEq, beq_self_eq_true, Bool.not_true, Bool.not_false, Bool.and_true, Bool.and_false, Bool.true_and, Bool.false_and, gI_sI, gI_sL, gI_sA, gI_sM, gL_sI, gL_sL, gL_sA, gL_sM, aI_sI, aI_sL, aI_sA, aI_sM, aL_sI, aL_sL, aL_sA, aL_sM, Blinks_0, Blinks_4, Blinks_12, Blinks_25, Blinks_31, Blinks_37, Blinks_50, Blinks_56, Blinks_62, Blinks_68, Blinks_86, Blinks_92, Blinks_115, Blinks_121, oi_0, oi_1, oi_10, oi_11, oi_12, oi_13, oi_14, oi_8, oi_9, oi_m1]; try dsimp only
          refine ⟨rfl, fun h1 => ?_, fun h1 => ?_⟩
          · apply hB
            dsimp only [rgo, rfd, Blinks, Nat.beq, rwp, rst, lv_args, rlk, rs1, rs2, rdl, rky, rct, rcs, rcd, rno, rsw, Value.category, List.filter, List.take, List.drop, List.reverse, List.reverseAux, List.cons_append, List.nil_append, Option.toList, Int.toNat, Int.reduceToNat, if_pos, if_neg, reduceIte, ↓reduceIte, Nat.reduceAdd, Nat.reduceEqDiff, Nat.reduceBEq, beq_self_eq_true, Bool.not_true, Bool.not_false, Bool.and_true, Bool.and_false, Bool.true_and, Bool.false_and, gI_sI, gI_sL, gI_sA, gI_sM, gL_sI, gL_sL, gL_sA, gL_sM, aI_sI, aI_sL, aI_sA, aI_sM, aL_sI, aL_sL, aL_sA, aL_sM, Blinks_0, Blinks_4, Blinks_12, Blinks_25, Blinks_31, Blinks_37, Blinks_50, Blinks_56, Blinks_62, Blinks_68, Blinks_86, Blinks_92, Blinks_115, Blinks_121, oi_0, oi_1, oi_10, oi_11, oi_12, oi_13, oi_14, oi_8, oi_9, oi_m1]; try dsimp only
            exact ⟨rfl, hv.fin hP (by rw [← (hv.1 18)]; exact nT_le (by rw [hv.1 18]; exact n18) (by lia)) hg hl⟩
          · have x18 : gI X 18 = gI σ 18 := hv.1 18
            have x19 : aI X 19 = aI σ 19 := hv.2.1 19 (by decide) (by decide)
            have hcn : nT c < nT (gI σ 18) := by rw [← x18]; exact nT_lt h0 (by lia)
            obtain ⟨Ec, Ec', sc, sc', pc⟩ := hP.j.pc hcn
            have hp4 := pc.c4
            have hO1 : 0 ≤ aI X 19 (nT c) := by rw [x19]; have := pc.hce.1.1; lia
            have hc40 : c < 4000 := t_lt (by have := t_nT h0; show _ < (4000 : Int); omega)
            have nC : nT (c + 1) = nT c + 1 := nT_add h0 (by lia)
            have c1 : 0 ≤ c + 1 := by lia
            have hdec : (4000 - (c + 1).toInt).toNat < z := mlt4 hk (by lia) (by lia)
            have hnb := hv.nb hP hcn
            apply hB
            dsimp only [rgo, rfd, Blinks, Nat.beq, rwp, rst, lv_args, rlk, rs1, rs2, rdl, rky, rct, rcs, rcd, rno, rsw, Value.category, List.filter, List.take, List.drop, List.reverse, List.reverseAux, List.cons_append, List.nil_append, Option.toList, Int.toNat, Int.reduceToNat, if_pos, if_neg, reduceIte, ↓reduceIte, Nat.reduceAdd, Nat.reduceEqDiff, Nat.reduceBEq, beq_self_eq_true, Bool.not_true, Bool.not_false, Bool.and_true, Bool.and_false, Bool.true_and, Bool.false_and, gI_sI, gI_sL, gI_sA, gI_sM, gL_sI, gL_sL, gL_sA, gL_sM, aI_sI, aI_sL, aI_sA, aI_sM, aL_sI, aL_sL, aL_sA, aL_sM, Blinks_0, Blinks_4, Blinks_12, Blinks_25, Blinks_31, Blinks_37, Blinks_50, Blinks_56, Blinks_62, Blinks_68, Blinks_86, Blinks_92, Blinks_115, Blinks_121, oi_0, oi_1, oi_10, oi_11, oi_12, oi_13, oi_14, oi_8, oi_9, oi_m1]; try dsimp only
            refine ⟨rfl, rfl, (in_19 (by lia) (by lia)), fun h2 => ?_, fun h2 => ?_⟩
            · apply hB
              dsimp only [rgo, rfd, Blinks, Nat.beq, rwp, rst, lv_args, rlk, rs1, rs2, rdl, rky, rct, rcs, rcd, rno, rsw, Value.category, List.filter, List.take, List.drop, List.reverse, List.reverseAux, List.cons_append, List.nil_append, Option.toList, Int.toNat, Int.reduceToNat, if_pos, if_neg, reduceIte, ↓reduceIte, Nat.reduceAdd, Nat.reduceEqDiff, Nat.reduceBEq, beq_self_eq_true, Bool.not_true, Bool.not_false, Bool.and_true, Bool.and_false, Bool.true_and, Bool.false_and, gI_sI, gI_sL, gI_sA, gI_sM, gL_sI, gL_sL, gL_sA, gL_sM, aI_sI, aI_sL, aI_sA, aI_sM, aL_sI, aL_sL, aL_sA, aL_sM, Blinks_0, Blinks_4, Blinks_12, Blinks_25, Blinks_31, Blinks_37, Blinks_50, Blinks_56, Blinks_62, Blinks_68, Blinks_86, Blinks_92, Blinks_115, Blinks_121, oi_0, oi_1, oi_10, oi_11, oi_12, oi_13, oi_14, oi_8, oi_9, oi_m1]; try dsimp only
              refine ⟨rfl, rfl, (in_126 (by lia) (by lia)), ?_⟩
              apply hB
              dsimp only [rgo, rfd, Blinks, Nat.beq, rwp, rst, lv_args, rlk, rs1, rs2, rdl, rky, rct, rcs, rcd, rno, rsw, Value.category, List.filter, List.take, List.drop, List.reverse, List.reverseAux, List.cons_append, List.nil_append, Option.toList, Int.toNat, Int.reduceToNat, if_pos, if_neg, reduceIte, ↓reduceIte, Nat.reduceAdd, Nat.reduceEqDiff, Nat.reduceBEq, beq_self_eq_true, Bool.not_true, Bool.not_false, Bool.and_true, Bool.and_false, Bool.true_and, Bool.false_and, gI_sI, gI_sL, gI_sA, gI_sM, gL_sI, gL_sL, gL_sA, gL_sM, aI_sI, aI_sL, aI_sA, aI_sM, aL_sI, aL_sL, aL_sA, aL_sM, Blinks_0, Blinks_4, Blinks_12, Blinks_25, Blinks_31, Blinks_37, Blinks_50, Blinks_56, Blinks_62, Blinks_68, Blinks_86, Blinks_92, Blinks_115, Blinks_121, oi_0, oi_1, oi_10, oi_11, oi_12, oi_13, oi_14, oi_8, oi_9, oi_m1]; try dsimp only
              exact hW 4 [(0, .ref 1000), (1, .int (n + 1)), (2, .int (c + 1))] _ _ _ (by simp [rdl, rky]) (loop _ hdec _ (n + 1) (c + 1) rfl c1 (by rw [nC]; exact hv.opn h0 hcn pc (by
                rw [← x19]
                have z2 : aI X 19 c.toNatClampNeg = 8 ∨ aI X 19 c.toNatClampNeg = 10 ∨ aI X 19 c.toNatClampNeg = 12 := by lia
                have z1 : aI X 19 (nT c) = 8 ∨ aI X 19 (nT c) = 10 ∨ aI X 19 (nT c) = 12 := z2
                rw [nTq hO1 8 (by decide) (by decide : nT 8 = 8), nTq hO1 10 (by decide) (by decide : nT 10 = 10), nTq hO1 12 (by decide) (by decide : nT 12 = 12)] at z1
                exact z1)) hg hl)
            · apply hB
              dsimp only [rgo, rfd, Blinks, Nat.beq, rwp, rst, lv_args, rlk, rs1, rs2, rdl, rky, rct, rcs, rcd, rno, rsw, Value.category, List.filter, List.take, List.drop, List.reverse, List.reverseAux, List.cons_append, List.nil_append, Option.toList, Int.toNat, Int.reduceToNat, if_pos, if_neg, reduceIte, ↓reduceIte, Nat.reduceAdd, Nat.reduceEqDiff, Nat.reduceBEq, beq_self_eq_true, Bool.not_true, Bool.not_false, Bool.and_true, Bool.and_false, Bool.true_and, Bool.false_and, gI_sI, gI_sL, gI_sA, gI_sM, gL_sI, gL_sL, gL_sA, gL_sM, aI_sI, aI_sL, aI_sA, aI_sM, aL_sI, aL_sL, aL_sA, aL_sM, Blinks_0, Blinks_4, Blinks_12, Blinks_25, Blinks_31, Blinks_37, Blinks_50, Blinks_56, Blinks_62, Blinks_68, Blinks_86, Blinks_92, Blinks_115, Blinks_121, oi_0, oi_1, oi_10, oi_11, oi_12, oi_13, oi_14, oi_8, oi_9, oi_m1]; try dsimp only
              refine ⟨fun h3 => ?_, fun h3 => ?_⟩
              · apply hB
                dsimp only [rgo, rfd, Blinks, Nat.beq, rwp, rst, lv_args, rlk, rs1, rs2, rdl, rky, rct, rcs, rcd, rno, rsw, Value.category, List.filter, List.take, List.drop, List.reverse, List.reverseAux, List.cons_append, List.nil_append, Option.toList, Int.toNat, Int.reduceToNat, if_pos, if_neg, reduceIte, ↓reduceIte, Nat.reduceAdd, Nat.reduceEqDiff, Nat.reduceBEq, beq_self_eq_true, Bool.not_true, Bool.not_false, Bool.and_true, Bool.and_false, Bool.true_and, Bool.false_and, gI_sI, gI_sL, gI_sA, gI_sM, gL_sI, gL_sL, gL_sA, gL_sM, aI_sI, aI_sL, aI_sA, aI_sM, aL_sI, aL_sL, aL_sA, aL_sM, Blinks_0, Blinks_4, Blinks_12, Blinks_25, Blinks_31, Blinks_37, Blinks_50, Blinks_56, Blinks_62, Blinks_68, Blinks_86, Blinks_92, Blinks_115, Blinks_121, oi_0, oi_1, oi_10, oi_11, oi_12, oi_13, oi_14, oi_8, oi_9, oi_m1]; try dsimp only
                refine ⟨rfl, rfl, (in_126 (by lia) (by lia)), ?_⟩
                apply hB
                dsimp only [rgo, rfd, Blinks, Nat.beq, rwp, rst, lv_args, rlk, rs1, rs2, rdl, rky, rct, rcs, rcd, rno, rsw, Value.category, List.filter, List.take, List.drop, List.reverse, List.reverseAux, List.cons_append, List.nil_append, Option.toList, Int.toNat, Int.reduceToNat, if_pos, if_neg, reduceIte, ↓reduceIte, Nat.reduceAdd, Nat.reduceEqDiff, Nat.reduceBEq, beq_self_eq_true, Bool.not_true, Bool.not_false, Bool.and_true, Bool.and_false, Bool.true_and, Bool.false_and, gI_sI, gI_sL, gI_sA, gI_sM, gL_sI, gL_sL, gL_sA, gL_sM, aI_sI, aI_sL, aI_sA, aI_sM, aL_sI, aL_sL, aL_sA, aL_sM, Blinks_0, Blinks_4, Blinks_12, Blinks_25, Blinks_31, Blinks_37, Blinks_50, Blinks_56, Blinks_62, Blinks_68, Blinks_86, Blinks_92, Blinks_115, Blinks_121, oi_0, oi_1, oi_10, oi_11, oi_12, oi_13, oi_14, oi_8, oi_9, oi_m1]; try dsimp only
                exact hW 4 [(0, .ref 1000), (1, .int (n + 1)), (2, .int (c + 1))] _ _ _ (by simp [rdl, rky]) (loop _ hdec _ (n + 1) (c + 1) rfl c1 (by rw [nC]; exact hv.opn h0 hcn pc (by
                  rw [← x19]
                  have z2 : aI X 19 c.toNatClampNeg = 8 ∨ aI X 19 c.toNatClampNeg = 10 ∨ aI X 19 c.toNatClampNeg = 12 := by lia
                  have z1 : aI X 19 (nT c) = 8 ∨ aI X 19 (nT c) = 10 ∨ aI X 19 (nT c) = 12 := z2
                  rw [nTq hO1 8 (by decide) (by decide : nT 8 = 8), nTq hO1 10 (by decide) (by decide : nT 10 = 10), nTq hO1 12 (by decide) (by decide : nT 12 = 12)] at z1
                  exact z1)) hg hl)
              · apply hB
                dsimp only [rgo, rfd, Blinks, Nat.beq, rwp, rst, lv_args, rlk, rs1, rs2, rdl, rky, rct, rcs, rcd, rno, rsw, Value.category, List.filter, List.take, List.drop, List.reverse, List.reverseAux, List.cons_append, List.nil_append, Option.toList, Int.toNat, Int.reduceToNat, if_pos, if_neg, reduceIte, ↓reduceIte, Nat.reduceAdd, Nat.reduceEqDiff, Nat.reduceBEq, beq_self_eq_true, Bool.not_true, Bool.not_false, Bool.and_true, Bool.and_false, Bool.true_and, Bool.false_and, gI_sI, gI_sL, gI_sA, gI_sM, gL_sI, gL_sL, gL_sA, gL_sM, aI_sI, aI_sL, aI_sA, aI_sM, aL_sI, aL_sL, aL_sA, aL_sM, Blinks_0, Blinks_4, Blinks_12, Blinks_25, Blinks_31, Blinks_37, Blinks_50, Blinks_56, Blinks_62, Blinks_68, Blinks_86, Blinks_92, Blinks_115, Blinks_121, oi_0, oi_1, oi_10, oi_11, oi_12, oi_13, oi_14, oi_8, oi_9, oi_m1]; try dsimp only
                refine ⟨fun h4 => ?_, fun h4 => ?_⟩
                · apply hB
                  dsimp only [rgo, rfd, Blinks, Nat.beq, rwp, rst, lv_args, rlk, rs1, rs2, rdl, rky, rct, rcs, rcd, rno, rsw, Value.category, List.filter, List.take, List.drop, List.reverse, List.reverseAux, List.cons_append, List.nil_append, Option.toList, Int.toNat, Int.reduceToNat, if_pos, if_neg, reduceIte, ↓reduceIte, Nat.reduceAdd, Nat.reduceEqDiff, Nat.reduceBEq, beq_self_eq_true, Bool.not_true, Bool.not_false, Bool.and_true, Bool.and_false, Bool.true_and, Bool.false_and, gI_sI, gI_sL, gI_sA, gI_sM, gL_sI, gL_sL, gL_sA, gL_sM, aI_sI, aI_sL, aI_sA, aI_sM, aL_sI, aL_sL, aL_sA, aL_sM, Blinks_0, Blinks_4, Blinks_12, Blinks_25, Blinks_31, Blinks_37, Blinks_50, Blinks_56, Blinks_62, Blinks_68, Blinks_86, Blinks_92, Blinks_115, Blinks_121, oi_0, oi_1, oi_10, oi_11, oi_12, oi_13, oi_14, oi_8, oi_9, oi_m1]; try dsimp only
                  refine ⟨fun h5 => ?_, fun h5 => ?_⟩
                  · have hcl0 : n + -1 = n - 1 := by lia
                    have hcl := hv.cls h0 hcn pc (by
                      rw [← x19]
                      have z2 : aI X 19 c.toNatClampNeg = 9 ∨ aI X 19 c.toNatClampNeg = 11 ∨ aI X 19 c.toNatClampNeg = 14 := by lia
                      have z1 : aI X 19 (nT c) = 9 ∨ aI X 19 (nT c) = 11 ∨ aI X 19 (nT c) = 14 := z2
                      rw [nTq hO1 9 (by decide) (by decide : nT 9 = 9), nTq hO1 11 (by decide) (by decide : nT 11 = 11), nTq hO1 14 (by decide) (by decide : nT 14 = 14)] at z1
                      exact z1)
                    have hcl1 : 0 ≤ aI X 126 (n - 1).toNatClampNeg ∧ aI X 126 (n - 1).toNatClampNeg < 4000 := hcl.2.1
                    rw [← hcl0] at hcl1
                    apply hB
                    dsimp only [rgo, rfd, Blinks, Nat.beq, rwp, rst, lv_args, rlk, rs1, rs2, rdl, rky, rct, rcs, rcd, rno, rsw, Value.category, List.filter, List.take, List.drop, List.reverse, List.reverseAux, List.cons_append, List.nil_append, Option.toList, Int.toNat, Int.reduceToNat, if_pos, if_neg, reduceIte, ↓reduceIte, Nat.reduceAdd, Nat.reduceEqDiff, Nat.reduceBEq, beq_self_eq_true, Bool.not_true, Bool.not_false, Bool.and_true, Bool.and_false, Bool.true_and, Bool.false_and, gI_sI, gI_sL, gI_sA, gI_sM, gL_sI, gL_sL, gL_sA, gL_sM, aI_sI, aI_sL, aI_sA, aI_sM, aL_sI, aL_sL, aL_sA, aL_sM, Blinks_0, Blinks_4, Blinks_12, Blinks_25, Blinks_31, Blinks_37, Blinks_50, Blinks_56, Blinks_62, Blinks_68, Blinks_86, Blinks_92, Blinks_115, Blinks_121, oi_0, oi_1, oi_10, oi_11, oi_12, oi_13, oi_14, oi_8, oi_9, oi_m1]; try dsimp only
                    refine ⟨rfl, rfl, rfl, (in_126 (by lia) (by lia)), rfl, (in_125 (by lia) (by lia)), ?_⟩
                    apply hB
                    dsimp only [rgo, rfd, Blinks, Nat.beq, rwp, rst, lv_args, rlk, rs1, rs2, rdl, rky, rct, rcs, rcd, rno, rsw, Value.category, List.filter, List.take, List.drop, List.reverse, List.reverseAux, List.cons_append, List.nil_append, Option.toList, Int.toNat, Int.reduceToNat, if_pos, if_neg, reduceIte, ↓reduceIte, Nat.reduceAdd, Nat.reduceEqDiff, Nat.reduceBEq, beq_self_eq_true, Bool.not_true, Bool.not_false, Bool.and_true, Bool.and_false, Bool.true_and, Bool.false_and, gI_sI, gI_sL, gI_sA, gI_sM, gL_sI, gL_sL, gL_sA, gL_sM, aI_sI, aI_sL, aI_sA, aI_sM, aL_sI, aL_sL, aL_sA, aL_sM, Blinks_0, Blinks_4, Blinks_12, Blinks_25, Blinks_31, Blinks_37, Blinks_50, Blinks_56, Blinks_62, Blinks_68, Blinks_86, Blinks_92, Blinks_115, Blinks_121, oi_0, oi_1, oi_10, oi_11, oi_12, oi_13, oi_14, oi_8, oi_9, oi_m1]; try dsimp only
                    rw [hcl0]
                    exact hW 4 [(0, .ref 1000), (1, .int (n - 1)), (2, .int (c + 1))] _ _ _ (by simp [rdl, rky]) (loop _ hdec _ (n - 1) (c + 1) rfl c1 (by rw [nC]; exact hcl.2.2) hg hl)
                  · apply hB
                    dsimp only [rgo, rfd, Blinks, Nat.beq, rwp, rst, lv_args, rlk, rs1, rs2, rdl, rky, rct, rcs, rcd, rno, rsw, Value.category, List.filter, List.take, List.drop, List.reverse, List.reverseAux, List.cons_append, List.nil_append, Option.toList, Int.toNat, Int.reduceToNat, if_pos, if_neg, reduceIte, ↓reduceIte, Nat.reduceAdd, Nat.reduceEqDiff, Nat.reduceBEq, beq_self_eq_true, Bool.not_true, Bool.not_false, Bool.and_true, Bool.and_false, Bool.true_and, Bool.false_and, gI_sI, gI_sL, gI_sA, gI_sM, gL_sI, gL_sL, gL_sA, gL_sM, aI_sI, aI_sL, aI_sA, aI_sM, aL_sI, aL_sL, aL_sA, aL_sM, Blinks_0, Blinks_4, Blinks_12, Blinks_25, Blinks_31, Blinks_37, Blinks_50, Blinks_56, Blinks_62, Blinks_68, Blinks_86, Blinks_92, Blinks_115, Blinks_121, oi_0, oi_1, oi_10, oi_11, oi_12, oi_13, oi_14, oi_8, oi_9, oi_m1]; try dsimp only
                    refine ⟨fun h6 => ?_, fun h6 => ?_⟩
                    · have hcl0 : n + -1 = n - 1 := by lia
                      have hcl := hv.cls h0 hcn pc (by
                        rw [← x19]
                        have z2 : aI X 19 c.toNatClampNeg = 9 ∨ aI X 19 c.toNatClampNeg = 11 ∨ aI X 19 c.toNatClampNeg = 14 := by lia
                        have z1 : aI X 19 (nT c) = 9 ∨ aI X 19 (nT c) = 11 ∨ aI X 19 (nT c) = 14 := z2
                        rw [nTq hO1 9 (by decide) (by decide : nT 9 = 9), nTq hO1 11 (by decide) (by decide : nT 11 = 11), nTq hO1 14 (by decide) (by decide : nT 14 = 14)] at z1
                        exact z1)
                      have hcl1 : 0 ≤ aI X 126 (n - 1).toNatClampNeg ∧ aI X 126 (n - 1).toNatClampNeg < 4000 := hcl.2.1
                      rw [← hcl0] at hcl1
                      apply hB
                      dsimp only [rgo, rfd, Blinks, Nat.beq, rwp, rst, lv_args, rlk, rs1, rs2, rdl, rky, rct, rcs, rcd, rno, rsw, Value.category, List.filter, List.take, List.drop, List.reverse, List.reverseAux, List.cons_append, List.nil_append, Option.toList, Int.toNat, Int.reduceToNat, if_pos, if_neg, reduceIte, ↓reduceIte, Nat.reduceAdd, Nat.reduceEqDiff, Nat.reduceBEq, beq_self_eq_true, Bool.not_true, Bool.not_false, Bool.and_true, Bool.and_false, Bool.true_and, Bool.false_and, gI_sI, gI_sL, gI_sA, gI_sM, gL_sI, gL_sL, gL_sA, gL_sM, aI_sI, aI_sL, aI_sA, aI_sM, aL_sI, aL_sL, aL_sA, aL_sM, Blinks_0, Blinks_4, Blinks_12, Blinks_25, Blinks_31, Blinks_37, Blinks_50, Blinks_56, Blinks_62, Blinks_68, Blinks_86, Blinks_92, Blinks_115, Blinks_121, oi_0, oi_1, oi_10, oi_11, oi_12, oi_13, oi_14, oi_8, oi_9, oi_m1]; try dsimp only
                      refine ⟨rfl, rfl, rfl, (in_126 (by lia) (by lia)), rfl, (in_125 (by lia) (by lia)), ?_⟩
                      apply hB
                      dsimp only [rgo, rfd, Blinks, Nat.beq, rwp, rst, lv_args, rlk, rs1, rs2, rdl, rky, rct, rcs, rcd, rno, rsw, Value.category, List.filter, List.take, List.drop, List.reverse, List.reverseAux, List.cons_append, List.nil_append, Option.toList, Int.toNat, Int.reduceToNat, if_pos, if_neg, reduceIte, ↓reduceIte, Nat.reduceAdd, Nat.reduceEqDiff, Nat.reduceBEq, beq_self_eq_true, Bool.not_true, Bool.not_false, Bool.and_true, Bool.and_false, Bool.true_and, Bool.false_and, gI_sI, gI_sL, gI_sA, gI_sM, gL_sI, gL_sL, gL_sA, gL_sM, aI_sI, aI_sL, aI_sA, aI_sM, aL_sI, aL_sL, aL_sA, aL_sM, Blinks_0, Blinks_4, Blinks_12, Blinks_25, Blinks_31, Blinks_37, Blinks_50, Blinks_56, Blinks_62, Blinks_68, Blinks_86, Blinks_92, Blinks_115, Blinks_121, oi_0, oi_1, oi_10, oi_11, oi_12, oi_13, oi_14, oi_8, oi_9, oi_m1]; try dsimp only
                      rw [hcl0]
                      exact hW 4 [(0, .ref 1000), (1, .int (n - 1)), (2, .int (c + 1))] _ _ _ (by simp [rdl, rky]) (loop _ hdec _ (n - 1) (c + 1) rfl c1 (by rw [nC]; exact hcl.2.2) hg hl)
                    · apply hB
                      dsimp only [rgo, rfd, Blinks, Nat.beq, rwp, rst, lv_args, rlk, rs1, rs2, rdl, rky, rct, rcs, rcd, rno, rsw, Value.category, List.filter, List.take, List.drop, List.reverse, List.reverseAux, List.cons_append, List.nil_append, Option.toList, Int.toNat, Int.reduceToNat, if_pos, if_neg, reduceIte, ↓reduceIte, Nat.reduceAdd, Nat.reduceEqDiff, Nat.reduceBEq, beq_self_eq_true, Bool.not_true, Bool.not_false, Bool.and_true, Bool.and_false, Bool.true_and, Bool.false_and, gI_sI, gI_sL, gI_sA, gI_sM, gL_sI, gL_sL, gL_sA, gL_sM, aI_sI, aI_sL, aI_sA, aI_sM, aL_sI, aL_sL, aL_sA, aL_sM, Blinks_0, Blinks_4, Blinks_12, Blinks_25, Blinks_31, Blinks_37, Blinks_50, Blinks_56, Blinks_62, Blinks_68, Blinks_86, Blinks_92, Blinks_115, Blinks_121, oi_0, oi_1, oi_10, oi_11, oi_12, oi_13, oi_14, oi_8, oi_9, oi_m1]; try dsimp only
                      refine ⟨fun h7 => ?_, fun h7 => ?_⟩
                      · apply hB
                        dsimp only [rgo, rfd, Blinks, Nat.beq, rwp, rst, lv_args, rlk, rs1, rs2, rdl, rky, rct, rcs, rcd, rno, rsw, Value.category, List.filter, List.take, List.drop, List.reverse, List.reverseAux, List.cons_append, List.nil_append, Option.toList, Int.toNat, Int.reduceToNat, if_pos, if_neg, reduceIte, ↓reduceIte, Nat.reduceAdd, Nat.reduceEqDiff, Nat.reduceBEq, beq_self_eq_true, Bool.not_true, Bool.not_false, Bool.and_true, Bool.and_false, Bool.true_and, Bool.false_and, gI_sI, gI_sL, gI_sA, gI_sM, gL_sI, gL_sL, gL_sA, gL_sM, aI_sI, aI_sL, aI_sA, aI_sM, aL_sI, aL_sL, aL_sA, aL_sM, Blinks_0, Blinks_4, Blinks_12, Blinks_25, Blinks_31, Blinks_37, Blinks_50, Blinks_56, Blinks_62, Blinks_68, Blinks_86, Blinks_92, Blinks_115, Blinks_121, oi_0, oi_1, oi_10, oi_11, oi_12, oi_13, oi_14, oi_8, oi_9, oi_m1]; try dsimp only
                        refine ⟨fun h8 => ?_, fun h8 => ?_⟩
                        · apply hB
                          dsimp only [rgo, rfd, Blinks, Nat.beq, rwp, rst, lv_args, rlk, rs1, rs2, rdl, rky, rct, rcs, rcd, rno, rsw, Value.category, List.filter, List.take, List.drop, List.reverse, List.reverseAux, List.cons_append, List.nil_append, Option.toList, Int.toNat, Int.reduceToNat, if_pos, if_neg, reduceIte, ↓reduceIte, Nat.reduceAdd, Nat.reduceEqDiff, Nat.reduceBEq, beq_self_eq_true, Bool.not_true, Bool.not_false, Bool.and_true, Bool.and_false, Bool.true_and, Bool.false_and, gI_sI, gI_sL, gI_sA, gI_sM, gL_sI, gL_sL, gL_sA, gL_sM, aI_sI, aI_sL, aI_sA, aI_sM, aL_sI, aL_sL, aL_sA, aL_sM, Blinks_0, Blinks_4, Blinks_12, Blinks_25, Blinks_31, Blinks_37, Blinks_50, Blinks_56, Blinks_62, Blinks_68, Blinks_86, Blinks_92, Blinks_115, Blinks_121, oi_0, oi_1, oi_10, oi_11, oi_12, oi_13, oi_14, oi_8, oi_9, oi_m1]; try dsimp only
                          exact hW 4 [(0, .ref 1000), (1, .int n), (2, .int (c + 1))] _ _ _ (by simp [rdl, rky]) (loop _ hdec _ n (c + 1) rfl c1 (by rw [nC]; exact hv.nx h0 hcn pc (fun z => by
                            rw [← x19] at z
                            have z1 : nT (aI X 19 (nT c)) = 8 ∨ nT (aI X 19 (nT c)) = 9 ∨ nT (aI X 19 (nT c)) = 10 ∨ nT (aI X 19 (nT c)) = 11 ∨ nT (aI X 19 (nT c)) = 12 ∨ nT (aI X 19 (nT c)) = 13 ∨ nT (aI X 19 (nT c)) = 14 := by omega
                            rw [← nTq hO1 8 (by decide) (by decide : nT 8 = 8), ← nTq hO1 9 (by decide) (by decide : nT 9 = 9), ← nTq hO1 10 (by decide) (by decide : nT 10 = 10), ← nTq hO1 11 (by decide) (by decide : nT 11 = 11), ← nTq hO1 12 (by decide) (by decide : nT 12 = 12), ← nTq hO1 13 (by decide) (by decide : nT 13 = 13), ← nTq hO1 14 (by decide) (by decide : nT 14 = 14)] at z1
                            have z2 : aI X 19 c.toNatClampNeg = 8 ∨ aI X 19 c.toNatClampNeg = 9 ∨ aI X 19 c.toNatClampNeg = 10 ∨ aI X 19 c.toNatClampNeg = 11 ∨ aI X 19 c.toNatClampNeg = 12 ∨ aI X 19 c.toNatClampNeg = 13 ∨ aI X 19 c.toNatClampNeg = 14 := z1
                            lia)) hg hl)
                        · have hcl := hv.qe h0 hcn pc (by
                            rw [← x19]
                            exact nTo 13 (by assumption) (by decide))
                          have hcl1 : 0 ≤ aI X 126 (n - 1).toNatClampNeg ∧ aI X 126 (n - 1).toNatClampNeg < 4000 := hcl.2.1
                          apply hB
                          dsimp only [rgo, rfd, Blinks, Nat.beq, rwp, rst, lv_args, rlk, rs1, rs2, rdl, rky, rct, rcs, rcd, rno, rsw, Value.category, List.filter, List.take, List.drop, List.reverse, List.reverseAux, List.cons_append, List.nil_append, Option.toList, Int.toNat, Int.reduceToNat, if_pos, if_neg, reduceIte, ↓reduceIte, Nat.reduceAdd, Nat.reduceEqDiff, Nat.reduceBEq, beq_self_eq_true, Bool.not_true, Bool.not_false, Bool.and_true, Bool.and_false, Bool.true_and, Bool.false_and, gI_sI, gI_sL, gI_sA, gI_sM, gL_sI, gL_sL, gL_sA, gL_sM, aI_sI, aI_sL, aI_sA, aI_sM, aL_sI, aL_sL, aL_sA, aL_sM, Blinks_0, Blinks_4, Blinks_12, Blinks_25, Blinks_31, Blinks_37, Blinks_50, Blinks_56, Blinks_62, Blinks_68, Blinks_86, Blinks_92, Blinks_115, Blinks_121, oi_0, oi_1, oi_10, oi_11, oi_12, oi_13, oi_14, oi_8, oi_9, oi_m1]; try dsimp only
                          refine ⟨rfl, rfl, rfl, (in_126 (by lia) (by lia)), rfl, (in_125 (by lia) (by lia)), rfl, rfl, (in_126 (by lia) (by lia)), ?_⟩
                          apply hB
                          dsimp only [rgo, rfd, Blinks, Nat.beq, rwp, rst, lv_args, rlk, rs1, rs2, rdl, rky, rct, rcs, rcd, rno, rsw, Value.category, List.filter, List.take, List.drop, List.reverse, List.reverseAux, List.cons_append, List.nil_append, Option.toList, Int.toNat, Int.reduceToNat, if_pos, if_neg, reduceIte, ↓reduceIte, Nat.reduceAdd, Nat.reduceEqDiff, Nat.reduceBEq, beq_self_eq_true, Bool.not_true, Bool.not_false, Bool.and_true, Bool.and_false, Bool.true_and, Bool.false_and, gI_sI, gI_sL, gI_sA, gI_sM, gL_sI, gL_sL, gL_sA, gL_sM, aI_sI, aI_sL, aI_sA, aI_sM, aL_sI, aL_sL, aL_sA, aL_sM, Blinks_0, Blinks_4, Blinks_12, Blinks_25, Blinks_31, Blinks_37, Blinks_50, Blinks_56, Blinks_62, Blinks_68, Blinks_86, Blinks_92, Blinks_115, Blinks_121, oi_0, oi_1, oi_10, oi_11, oi_12, oi_13, oi_14, oi_8, oi_9, oi_m1]; try dsimp only
                          exact hW 4 [(0, .ref 1000), (1, .int n), (2, .int (c + 1))] _ _ _ (by simp [rdl, rky]) (loop _ hdec _ n (c + 1) rfl c1 (by rw [nC]; exact hcl.2.2) hg hl)
                      · have hcl0 : n + -1 = n - 1 := by lia
                        have hcl := hv.cls h0 hcn pc (by
                          rw [← x19]
                          have z2 : aI X 19 c.toNatClampNeg = 9 ∨ aI X 19 c.toNatClampNeg = 11 ∨ aI X 19 c.toNatClampNeg = 14 := by lia
                          have z1 : aI X 19 (nT c) = 9 ∨ aI X 19 (nT c) = 11 ∨ aI X 19 (nT c) = 14 := z2
                          rw [nTq hO1 9 (by decide) (by decide : nT 9 = 9), nTq hO1 11 (by decide) (by decide : nT 11 = 11), nTq hO1 14 (by decide) (by decide : nT 14 = 14)] at z1
                          exact z1)
                        have hcl1 : 0 ≤ aI X 126 (n - 1).toNatClampNeg ∧ aI X 126 (n - 1).toNatClampNeg < 4000 := hcl.2.1
                        rw [← hcl0] at hcl1
                        apply hB
                        dsimp only [rgo, rfd, Blinks, Nat.beq, rwp, rst, lv_args, rlk, rs1, rs2, rdl, rky, rct, rcs, rcd, rno, rsw, Value.category, List.filter, List.take, List.drop, List.reverse, List.reverseAux, List.cons_append, List.nil_append, Option.toList, Int.toNat, Int.reduceToNat, if_pos, if_neg, reduceIte, ↓reduceIte, Nat.reduceAdd, Nat.reduceEqDiff, Nat.reduceBEq, beq_self_eq_true, Bool.not_true, Bool.not_false, Bool.and_true, Bool.and_false, Bool.true_and, Bool.false_and, gI_sI, gI_sL, gI_sA, gI_sM, gL_sI, gL_sL, gL_sA, gL_sM, aI_sI, aI_sL, aI_sA, aI_sM, aL_sI, aL_sL, aL_sA, aL_sM, Blinks_0, Blinks_4, Blinks_12, Blinks_25, Blinks_31, Blinks_37, Blinks_50, Blinks_56, Blinks_62, Blinks_68, Blinks_86, Blinks_92, Blinks_115, Blinks_121, oi_0, oi_1, oi_10, oi_11, oi_12, oi_13, oi_14, oi_8, oi_9, oi_m1]; try dsimp only
                        refine ⟨rfl, rfl, rfl, (in_126 (by lia) (by lia)), rfl, (in_125 (by lia) (by lia)), ?_⟩
                        apply hB
                        dsimp only [rgo, rfd, Blinks, Nat.beq, rwp, rst, lv_args, rlk, rs1, rs2, rdl, rky, rct, rcs, rcd, rno, rsw, Value.category, List.filter, List.take, List.drop, List.reverse, List.reverseAux, List.cons_append, List.nil_append, Option.toList, Int.toNat, Int.reduceToNat, if_pos, if_neg, reduceIte, ↓reduceIte, Nat.reduceAdd, Nat.reduceEqDiff, Nat.reduceBEq, beq_self_eq_true, Bool.not_true, Bool.not_false, Bool.and_true, Bool.and_false, Bool.true_and, Bool.false_and, gI_sI, gI_sL, gI_sA, gI_sM, gL_sI, gL_sL, gL_sA, gL_sM, aI_sI, aI_sL, aI_sA, aI_sM, aL_sI, aL_sL, aL_sA, aL_sM, Blinks_0, Blinks_4, Blinks_12, Blinks_25, Blinks_31, Blinks_37, Blinks_50, Blinks_56, Blinks_62, Blinks_68, Blinks_86, Blinks_92, Blinks_115, Blinks_121, oi_0, oi_1, oi_10, oi_11, oi_12, oi_13, oi_14, oi_8, oi_9, oi_m1]; try dsimp only
                        rw [hcl0]
                        exact hW 4 [(0, .ref 1000), (1, .int (n - 1)), (2, .int (c + 1))] _ _ _ (by simp [rdl, rky]) (loop _ hdec _ (n - 1) (c + 1) rfl c1 (by rw [nC]; exact hcl.2.2) hg hl)
                · apply hB
                  dsimp only [rgo, rfd, Blinks, Nat.beq, rwp, rst, lv_args, rlk, rs1, rs2, rdl, rky, rct, rcs, rcd, rno, rsw, Value.category, List.filter, List.take, List.drop, List.reverse, List.reverseAux, List.cons_append, List.nil_append, Option.toList, Int.toNat, Int.reduceToNat, if_pos, if_neg, reduceIte, ↓reduceIte, Nat.reduceAdd, Nat.reduceEqDiff, Nat.reduceBEq, beq_self_eq_true, Bool.not_true, Bool.not_false, Bool.and_true, Bool.and_false, Bool.true_and, Bool.false_and, gI_sI, gI_sL, gI_sA, gI_sM, gL_sI, gL_sL, gL_sA, gL_sM, aI_sI, aI_sL, aI_sA, aI_sM, aL_sI, aL_sL, aL_sA, aL_sM, Blinks_0, Blinks_4, Blinks_12, Blinks_25, Blinks_31, Blinks_37, Blinks_50, Blinks_56, Blinks_62, Blinks_68, Blinks_86, Blinks_92, Blinks_115, Blinks_121, oi_0, oi_1, oi_10, oi_11, oi_12, oi_13, oi_14, oi_8, oi_9, oi_m1]; try dsimp only
                  refine ⟨rfl, rfl, (in_126 (by lia) (by lia)), ?_⟩
                  apply hB
                  dsimp only [rgo, rfd, Blinks, Nat.beq, rwp, rst, lv_args, rlk, rs1, rs2, rdl, rky, rct, rcs, rcd, rno, rsw, Value.category, List.filter, List.take, List.drop, List.reverse, List.reverseAux, List.cons_append, List.nil_append, Option.toList, Int.toNat, Int.reduceToNat, if_pos, if_neg, reduceIte, ↓reduceIte, Nat.reduceAdd, Nat.reduceEqDiff, Nat.reduceBEq, beq_self_eq_true, Bool.not_true, Bool.not_false, Bool.and_true, Bool.and_false, Bool.true_and, Bool.false_and, gI_sI, gI_sL, gI_sA, gI_sM, gL_sI, gL_sL, gL_sA, gL_sM, aI_sI, aI_sL, aI_sA, aI_sM, aL_sI, aL_sL, aL_sA, aL_sM, Blinks_0, Blinks_4, Blinks_12, Blinks_25, Blinks_31, Blinks_37, Blinks_50, Blinks_56, Blinks_62, Blinks_68, Blinks_86, Blinks_92, Blinks_115, Blinks_121, oi_0, oi_1, oi_10, oi_11, oi_12, oi_13, oi_14, oi_8, oi_9, oi_m1]; try dsimp only
                  exact hW 4 [(0, .ref 1000), (1, .int (n + 1)), (2, .int (c + 1))] _ _ _ (by simp [rdl, rky]) (loop _ hdec _ (n + 1) (c + 1) rfl c1 (by rw [nC]; exact hv.opn h0 hcn pc (by
                    rw [← x19]
                    have z2 : aI X 19 c.toNatClampNeg = 8 ∨ aI X 19 c.toNatClampNeg = 10 ∨ aI X 19 c.toNatClampNeg = 12 := by lia
                    have z1 : aI X 19 (nT c) = 8 ∨ aI X 19 (nT c) = 10 ∨ aI X 19 (nT c) = 12 := z2
                    rw [nTq hO1 8 (by decide) (by decide : nT 8 = 8), nTq hO1 10 (by decide) (by decide : nT 10 = 10), nTq hO1 12 (by decide) (by decide : nT 12 = 12)] at z1
                    exact z1)) hg hl)
      apply hB
      dsimp only [rgo, rfd, Blinks, Nat.beq, rwp, rst, lv_args, rlk, rs1, rs2, rdl, rky, rct, rcs, rcd, rno, rsw, Value.category, List.filter, List.take, List.drop, List.reverse, List.reverseAux, List.cons_append, List.nil_append, Option.toList, Int.toNat, Int.reduceToNat, if_pos, if_neg, reduceIte, ↓reduceIte, Nat.reduceAdd, Nat.reduceEqDiff, Nat.reduceBEq, beq_self_eq_true, Bool.not_true, Bool.not_false, Bool.and_true, Bool.and_false, Bool.true_and, Bool.false_and, gI_sI, gI_sL, gI_sA, gI_sM, gL_sI, gL_sL, gL_sA, gL_sM, aI_sI, aI_sL, aI_sA, aI_sM, aL_sI, aL_sL, aL_sA, aL_sM, Blinks_0, Blinks_4, Blinks_12, Blinks_25, Blinks_31, Blinks_37, Blinks_50, Blinks_56, Blinks_62, Blinks_68, Blinks_86, Blinks_92, Blinks_115, Blinks_121, oi_0, oi_1, oi_10, oi_11, oi_12, oi_13, oi_14, oi_8, oi_9, oi_m1]; try dsimp only
      have n0 : nT (0 : Int32) = 0 := by decide
      exact hW 4 [(0, .ref 1000), (1, .int 0), (2, .int 0)] _ _ _ (by simp [rdl, rky]) (loop _ σ 0 0 rfl (by decide) ⟨fun _ => rfl, fun _ _ _ => rfl, by rw [n0]; exact Nat.zero_le _, [], by rw [n0]; rfl, ⟨by decide, n0⟩, fun l k r e => (by cases l <;> cases e), fun p hp => absurd hp (by rw [n0]; exact Nat.not_lt_zero p)⟩ (fun _ => rfl) (fun _ => rfl))
    next => exact hP.elim
