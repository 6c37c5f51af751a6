def P_call0 : RP := fun As σ => match As with
  | [.int c] => RG σ ∧ CN σ ∧ gI σ 142 = 0 ∧ WS σ (nT c) ∧ 0 ≤ c ∧ aI σ 19 (nT c) = 18
  | _ => False
def Q_call0 : RQ := fun As σ w τ => match As with
  | [.int c] => w = none ∧ WQ σ (nT c) τ
  | _ => False
set_option maxRecDepth 100000 in
set_option maxHeartbeats 4000000 in
theorem m_call0 (l : Launch) : RMet l 2 154 P_call0 Q_call0 := by
  refine RMet.by Bcall0 [(150, P_begin, Q_begin), (145, P_count1, Q_count1), (155, P_next, Q_next), (143, P_pop1, Q_pop1), (144, P_put, Q_put), (146, P_slot, Q_slot), (156, P_tell, Q_tell)] rocall0 okBcall0 (ctc (m_begin l) (by decide) (ctc (m_count1 l) (by decide) (ctc (m_next l) (by decide) (ctc (m_pop1 l) (by decide) (ctc (m_put l) (by decide) (ctc (m_slot l) (by decide) (ctc (m_tell l) (by decide) ct0))))))) ?_ ?_
  · intro As σ hP
    unfold P_call0 at hP
    split at hP
    next => exact Nat.le_of_ble_eq_true rfl
    next => exact hP.elim
  · intro As σ hP G hB hW
    unfold P_call0 at hP
    split at hP
    next c => 
      unfold Q_call0 at hB
      dsimp only at hB
      obtain ⟨hG, hC, h0, hS, hc0, ho⟩ := hP
      have hcn := hS.1.1
      have hz3 := hG.k.sz.2
      have hc3 : c < 3020 := (nlt hc0 (by decide)).mpr (by show nT c < 3020; omega)
      have hC1 := hC.1
      have hC2 := hC.2.1
      have hC3 := hC.2.2.1
      have hC4 := hC.2.2.2
      obtain ⟨⟨hMV1, hMV2⟩, hRO⟩ := (hG.ec hcn).2.2.1 ho
      have hMV1 : 0 ≤ aI σ 83 c.toNatClampNeg ∧ (aI σ 83 c.toNatClampNeg < gI σ 36 ∨ aI σ 83 c.toNatClampNeg = 10 ∨ aI σ 83 c.toNatClampNeg = 11) := hMV1
      have hMV2 : (aI σ 83 c.toNatClampNeg = 10 ∧ aI σ 20 c.toNatClampNeg = 1) ∨ (aI σ 83 c.toNatClampNeg = 11 ∧ aI σ 20 c.toNatClampNeg = 0) ∨ (aI σ 83 c.toNatClampNeg < 10 ∧ aI σ 20 c.toNatClampNeg = aI σ 39 (aI σ 83 c.toNatClampNeg).toNatClampNeg) := hMV2
      have hRO : (aI σ 83 c.toNatClampNeg = 10 ∧ aI σ 81 c.toNatClampNeg = 5) ∨ (aI σ 83 c.toNatClampNeg = 11 ∧ aI σ 81 c.toNatClampNeg = 3) ∨ (aI σ 83 c.toNatClampNeg < 10 ∧ aI σ 81 c.toNatClampNeg = aI σ 38 (aI σ 83 c.toNatClampNeg).toNatClampNeg) := hRO
      have hm36a := hG.k.j.m
      have hv42 := hG.k.j.v
      obtain ⟨hq1, hq2, hq3, hq4, hq5⟩ : (1 ≤ gI σ 129 ∧ gI σ 129 ≤ 30) ∧ (0 ≤ gI σ 128 ∧ gI σ 128 ≤ 7800) ∧ (0 ≤ aI σ 20 c.toNatClampNeg → aI σ 20 c.toNatClampNeg ≤ gI σ 128) ∧ True ∧ True := by
        obtain ⟨i, h, t0, m, l, z, r, x, ⟨a1, a2, a3⟩, hB, -, hx, hz, ⟨c1, c2⟩, -, b1, b2⟩ := hS.call hG ho
        refine ⟨⟨(nle (by decide) a1).mpr (by rw [a2]; show 1 ≤ i + 1; omega), (nle a1 (by decide)).mpr (by rw [a2]; show i + 1 ≤ 30; omega)⟩, ⟨c1, (nle c1 (by decide)).mpr (by rw [c2]; show _ ≤ 7800; omega)⟩, fun q => (nle q c1).mpr (by rw [c2, hz]; show nT (aI σ 20 (nT c)) ≤ _; omega), trivial, trivial⟩
      have hMTa : aI σ 83 c.toNatClampNeg < 10 → (0 ≤ aI σ 39 (aI σ 83 c.toNatClampNeg).toNatClampNeg ∧ aI σ 39 (aI σ 83 c.toNatClampNeg).toNatClampNeg ≤ 6) ∧ (0 ≤ aI σ 40 (aI σ 83 c.toNatClampNeg).toNatClampNeg ∧ aI σ 40 (aI σ 83 c.toNatClampNeg).toNatClampNeg + aI σ 39 (aI σ 83 c.toNatClampNeg).toNatClampNeg ≤ 60 ∧ aI σ 40 (aI σ 83 c.toNatClampNeg).toNatClampNeg ≤ 60) := by
        intro hlt
        have hmn : nT (aI σ 83 (nT c)) < nT (gI σ 36) := nT_lt hMV1.1 (show aI σ 83 c.toNatClampNeg < gI σ 36 by lia)
        obtain ⟨f, kk, j, hp⟩ := hG.k
        have q := hp.2.2.2.2.2.2.2.2.1.2 (nT (aI σ 83 (nT c))) hmn
        have q2 : 0 ≤ aI σ 39 (nT (aI σ 83 (nT c))) ∧ aI σ 39 (nT (aI σ 83 (nT c))) ≤ 6 := q.2.1
        have q3 : 0 ≤ aI σ 40 (nT (aI σ 83 (nT c))) ∧ aI σ 40 (nT (aI σ 83 (nT c))) + aI σ 39 (nT (aI σ 83 (nT c))) ≤ gI σ 42 ∧ aI σ 40 (nT (aI σ 83 (nT c))) ≤ gI σ 42 := q.2.2.1
        exact ⟨q2, q3.1, Int32.le_trans q3.2.1 hv42.2, Int32.le_trans q3.2.2 hv42.2⟩
      have t101 : ∀ S : RS, S = (sI (sI (sA (sA (sI σ 144 (gI σ 144 + 1)) 132 (upd (aI σ 132) (gI σ 129).toNatClampNeg (aI σ 83 c.toNatClampNeg))) 131 (upd (aI σ 131) (gI σ 129).toNatClampNeg (gI σ 141))) 129 (gI σ 129 + 1)) 128 (gI σ 128 - aI σ 20 c.toNatClampNeg)) → aI σ 83 c.toNatClampNeg < 10 → gI σ 129 < 30 → ¬ gI σ 144 = gI σ 145 → G 101 [(0, .ref 1000), (1, .int c), (2, .int (aI σ 83 c.toNatClampNeg)), (3, .int (aI σ 20 c.toNatClampNeg)), (4, .int (gI σ 141)), (5, .int 0)] [] S := by
        intro S hSe hlt h30 hs0
        have hm0 := hMV1.1
        have hm36 : aI σ 83 c.toNatClampNeg < gI σ 36 := by lia
        have hMTb := hMTa hlt
        have hn0 : 0 ≤ aI σ 20 c.toNatClampNeg := by lia
        have hnh := hq3 hn0
        have hro : aI σ 81 c.toNatClampNeg = aI σ 38 (aI σ 83 c.toNatClampNeg).toNatClampNeg := by lia
        have hF1 : Fz σ S := by rw [hSe]; (repeat (first | exact Fz.rf | refine Fz.a ?_ rfl | refine Fz.i ?_ rfl | refine Fz.g ?_ rfl | refine Fz.m ?_ rfl))
        have k144 : gI S 144 = gI σ 144 + 1 := by rw [hSe]; rfl
        have k145 : gI S 145 = gI σ 145 := by rw [hSe]; rfl
        have k142 : gI S 142 = 0 := by rw [hSe]; exact h0
        have k129 : gI S 129 = gI σ 129 + 1 := by rw [hSe]; rfl
        have k128 : gI S 128 = gI σ 128 - aI σ 20 c.toNatClampNeg := by rw [hSe]; rfl
        have k133 : gI S 133 = gI σ 133 := by rw [hSe]; rfl
        have k132 : aI S 132 = upd (aI σ 132) (nT (gI σ 129)) (aI σ 83 c.toNatClampNeg) := by rw [hSe]; rfl
        have k131 : aI S 131 = upd (aI σ 131) (nT (gI σ 129)) (gI σ 141) := by rw [hSe]; rfl
        have r40 : aI S 40 = aI σ 40 := by rw [hSe]; rfl
        have r41 : aI S 41 = aI σ 41 := by rw [hSe]; rfl
        have kyy : ∀ k, 134 ≤ k → k ≤ 139 → aI S k = aI σ k := by
          intro k k1 k2
          have hk : k = 134 ∨ k = 135 ∨ k = 136 ∨ k = 137 ∨ k = 138 ∨ k = 139 := by omega
          rw [hSe]
          rcases hk with rfl | rfl | rfl | rfl | rfl | rfl <;> rfl
        have hCN1 : CN S := by
          have i146 : gI S 146 = gI σ 146 := by rw [hSe]; rfl
          have i148 : gI S 148 = gI σ 148 := by rw [hSe]; rfl
          have i123 : gI S 123 = gI σ 123 := by rw [hSe]; rfl
          unfold CN
          rw [k144, k145, i146, i148, i123]
          exact ⟨⟨by lia, by lia, by lia⟩, ⟨by lia, by lia⟩, ⟨by lia, by lia⟩, by lia, by lia⟩
        have loop : ∀ n : Nat, ∀ (i : Int32) (f : Nat → Int64), (4000 - i.toInt).toNat = n → (0 ≤ i ∧ i ≤ 6) → G 101 [(0, .ref 1000), (1, .int c), (2, .int (aI σ 83 c.toNatClampNeg)), (3, .int (aI σ 20 c.toNatClampNeg)), (4, .int (gI σ 141)), (5, .int i)] [] (sM S 130 f) := by
          intro n
          induction n using Nat.strongRecOn with
          | ind n loop =>
            intro i f hk hi
            apply hB
            dsimp only [rgo, rfd, Bcall0, Nat.beq, rwp, rst, lv_args, rlk, rs1, rs2, rdl, rky, rct, rcs, rcd, rno, rsw, Value.category, List.filter, List.take, List.drop, List.reverse, List.reverseAux, List.cons_append, List.nil_append, Option.toList, Int.toNat, Int.reduceToNat, if_pos, if_neg, reduceIte, ↓reduceIte, Nat.reduceAdd, Nat.reduceEqDiff, Nat.reduceBEq, beq_self_eq_true, Bool.not_true, Bool.not_false, Bool.and_true, Bool.and_false, Bool.true_and, Bool.false_and, gI_sI, gI_sL, gI_sA, gI_sM, gL_sI, gL_sL, gL_sA, gL_sM, aI_sI, aI_sL, aI_sA, aI_sM, aL_sI, aL_sL, aL_sA, aL_sM, Bcall0_0, Bcall0_21, Bcall0_22, Bcall0_28, Bcall0_37, Bcall0_45, Bcall0_51, Bcall0_62, Bcall0_70, Bcall0_71, Bcall0_87, Bcall0_88, Bcall0_101, Bcall0_107, Bcall0_143, oi_0, oi_1, oi_10, oi_11, oi_30, oi_4, P_begin, P_count1, P_next, P_pop1, P_put, P_slot, P_tell]; try dsimp only
            refine ⟨fun h1 => ?_, fun h1 => ?_⟩
            · apply hB
              dsimp only [rgo, rfd, Bcall0, Nat.beq, rwp, rst, lv_args, rlk, rs1, rs2, rdl, rky, rct, rcs, rcd, rno, rsw, Value.category, List.filter, List.take, List.drop, List.reverse, List.reverseAux, List.cons_append, List.nil_append, Option.toList, Int.toNat, Int.reduceToNat, if_pos, if_neg, reduceIte, ↓reduceIte, Nat.reduceAdd, Nat.reduceEqDiff, Nat.reduceBEq, beq_self_eq_true, Bool.not_true, Bool.not_false, Bool.and_true, Bool.and_false, Bool.true_and, Bool.false_and, gI_sI, gI_sL, gI_sA, gI_sM, gL_sI, gL_sL, gL_sA, gL_sM, aI_sI, aI_sL, aI_sA, aI_sM, aL_sI, aL_sL, aL_sA, aL_sM, Bcall0_0, Bcall0_21, Bcall0_22, Bcall0_28, Bcall0_37, Bcall0_45, Bcall0_51, Bcall0_62, Bcall0_70, Bcall0_71, Bcall0_87, Bcall0_88, Bcall0_101, Bcall0_107, Bcall0_143, oi_0, oi_1, oi_10, oi_11, oi_30, oi_4, P_begin, P_count1, P_next, P_pop1, P_put, P_slot, P_tell]; try dsimp only
              refine ⟨rfl, rfl, (in_41 (by lia) (by lia)), rfl, ?_⟩
              refine ⟨rfl, call_m (μ := aI σ 83 c.toNatClampNeg) hG hC hS ho (((hF1.m rfl).i rfl)) ?_ hs0 ?_ ?_ ?_ ⟨hm0, hm36⟩ hro h30 ?_ ?_ ?_ ?_ ?_ ?_ hn0 ?_⟩
              · exact hCN1
              · exact k144
              · exact k145
              · exact k142
              · exact k129
              · exact k133
              · show aI S 41 _ = _
                rw [r41]
                rfl
              · exact kyy
              · exact k132
              · exact k131
              · exact k128
            · have hsl := slt (c := gI S 129) (v := aI S 40 (aI σ 83 c.toNatClampNeg).toNatClampNeg + i) (by rw [k129]; lia) (by rw [k129]; lia) (by rw [r40]; lia) (by rw [r40]; lia)
              have hpl : 0 ≤ gI S 128 + i ∧ gI S 128 + i < 8000 := (by rw [k128]; exact ⟨by lia, by lia⟩)
              apply hB
              dsimp only [rgo, rfd, Bcall0, Nat.beq, rwp, rst, lv_args, rlk, rs1, rs2, rdl, rky, rct, rcs, rcd, rno, rsw, Value.category, List.filter, List.take, List.drop, List.reverse, List.reverseAux, List.cons_append, List.nil_append, Option.toList, Int.toNat, Int.reduceToNat, if_pos, if_neg, reduceIte, ↓reduceIte, Nat.reduceAdd, Nat.reduceEqDiff, Nat.reduceBEq, beq_self_eq_true, Bool.not_true, Bool.not_false, Bool.and_true, Bool.and_false, Bool.true_and, Bool.false_and, gI_sI, gI_sL, gI_sA, gI_sM, gL_sI, gL_sL, gL_sA, gL_sM, aI_sI, aI_sL, aI_sA, aI_sM, aL_sI, aL_sL, aL_sA, aL_sM, Bcall0_0, Bcall0_21, Bcall0_22, Bcall0_28, Bcall0_37, Bcall0_45, Bcall0_51, Bcall0_62, Bcall0_70, Bcall0_71, Bcall0_87, Bcall0_88, Bcall0_101, Bcall0_107, Bcall0_143, oi_0, oi_1, oi_10, oi_11, oi_30, oi_4, P_begin, P_count1, P_next, P_pop1, P_put, P_slot, P_tell]; try dsimp only
              refine ⟨rfl, rfl, rfl, (in_40 (by lia) (by lia)), rfl, (by decide), (trivial), fun w2 τ2 hq2 => ?_⟩
              obtain ⟨rfl, e2⟩ := hq2
              obtain rfl := e2.symm
              dsimp only [Option.toList, List.cons_append, List.nil_append, Nat.beq, gI_sI, gI_sL, gI_sA, gI_sM, gL_sI, gL_sL, gL_sA, gL_sM, aI_sI, aI_sL, aI_sA, aI_sM, aL_sI, aL_sL, aL_sA, aL_sM]
              refine ⟨rfl, rfl, rfl, (in_127 hpl.1 hpl.2), rfl, (in_130 hsl.1 hsl.2), ?_⟩
              refine hW 101 [(0, .ref 1000), (1, .int c), (2, .int (aI σ 83 c.toNatClampNeg)), (3, .int (aI σ 20 c.toNatClampNeg)), (4, .int (gI σ 141)), (5, .int (i + 1))] _ _ _ (by simp [rdl, rky]) (?_)
              rw [sM_sM]
              refine loop _ ?_ (i + 1) _ rfl ⟨by lia, by lia⟩
              exact mlt4 hk (by lia) (by lia)
        have e : S = sM S 130 (aL S 130) := sM_id.symm
        rw [e]
        exact loop _ 0 _ rfl ⟨by decide, by decide⟩
      apply hB
      dsimp only [rgo, rfd, Bcall0, Nat.beq, rwp, rst, lv_args, rlk, rs1, rs2, rdl, rky, rct, rcs, rcd, rno, rsw, Value.category, List.filter, List.take, List.drop, List.reverse, List.reverseAux, List.cons_append, List.nil_append, Option.toList, Int.toNat, Int.reduceToNat, if_pos, if_neg, reduceIte, ↓reduceIte, Nat.reduceAdd, Nat.reduceEqDiff, Nat.reduceBEq, beq_self_eq_true, Bool.not_true, Bool.not_false, Bool.and_true, Bool.and_false, Bool.true_and, Bool.false_and, gI_sI, gI_sL, gI_sA, gI_sM, gL_sI, gL_sL, gL_sA, gL_sM, aI_sI, aI_sL, aI_sA, aI_sM, aL_sI, aL_sL, aL_sA, aL_sM, Bcall0_0, Bcall0_21, Bcall0_22, Bcall0_28, Bcall0_37, Bcall0_45, Bcall0_51, Bcall0_62, Bcall0_70, Bcall0_71, Bcall0_87, Bcall0_88, Bcall0_101, Bcall0_107, Bcall0_143, oi_0, oi_1, oi_10, oi_11, oi_30, oi_4, P_begin, P_count1, P_next, P_pop1, P_put, P_slot, P_tell]; try dsimp only
      refine ⟨rfl, rfl, (in_83 (by lia) (by lia)), rfl, rfl, (in_20 (by lia) (by lia)), rfl, (by decide), (trivial), fun w1 τ1 hq1 => ?_⟩
      obtain ⟨r1, rfl, hr1⟩ := hq1
      rcases hr1 with ⟨rfl, hs1, rfl⟩ | ⟨rfl, hs1, rfl⟩
      · dsimp only [Option.toList, List.cons_append, List.nil_append, Nat.beq, gI_sI, gI_sL, gI_sA, gI_sM, gL_sI, gL_sL, gL_sA, gL_sM, aI_sI, aI_sL, aI_sA, aI_sM, aL_sI, aL_sL, aL_sA, aL_sM]
        refine ⟨fun h2 => absurd h2 (by decide), fun h2 => ?_⟩
        clear h2
        apply hB
        dsimp only [rgo, rfd, Bcall0, Nat.beq, rwp, rst, lv_args, rlk, rs1, rs2, rdl, rky, rct, rcs, rcd, rno, rsw, Value.category, List.filter, List.take, List.drop, List.reverse, List.reverseAux, List.cons_append, List.nil_append, Option.toList, Int.toNat, Int.reduceToNat, if_pos, if_neg, reduceIte, ↓reduceIte, Nat.reduceAdd, Nat.reduceEqDiff, Nat.reduceBEq, beq_self_eq_true, Bool.not_true, Bool.not_false, Bool.and_true, Bool.and_false, Bool.true_and, Bool.false_and, gI_sI, gI_sL, gI_sA, gI_sM, gL_sI, gL_sL, gL_sA, gL_sM, aI_sI, aI_sL, aI_sA, aI_sM, aL_sI, aL_sL, aL_sA, aL_sM, Bcall0_0, Bcall0_21, Bcall0_22, Bcall0_28, Bcall0_37, Bcall0_45, Bcall0_51, Bcall0_62, Bcall0_70, Bcall0_71, Bcall0_87, Bcall0_88, Bcall0_101, Bcall0_107, Bcall0_143, oi_0, oi_1, oi_10, oi_11, oi_30, oi_4, P_begin, P_count1, P_next, P_pop1, P_put, P_slot, P_tell]; try dsimp only
        exact ⟨rfl, by (repeat (first | exact Fz.rf | refine Fz.a ?_ rfl | refine Fz.i ?_ rfl | refine Fz.g ?_ rfl | refine Fz.m ?_ rfl)), (by unfold CN; (try dsimp only [Nat.beq, gI_sI, gI_sL, gI_sA, gI_sM, gL_sI, gL_sL, gL_sA, gL_sM, aI_sI, aI_sL, aI_sA, aI_sM, aL_sI, aL_sL, aL_sA, aL_sM]); refine ⟨⟨by lia, by lia, by lia⟩, ⟨by lia, by lia⟩, ⟨by lia, by lia⟩, by lia, by lia⟩), Or.inl (show ¬ (3 : Int32) = 0 by decide)⟩
      · dsimp only [Option.toList, List.cons_append, List.nil_append, Nat.beq, gI_sI, gI_sL, gI_sA, gI_sM, gL_sI, gL_sL, gL_sA, gL_sM, aI_sI, aI_sL, aI_sA, aI_sM, aL_sI, aL_sL, aL_sA, aL_sM]
        refine ⟨fun h3 => ?_, fun h3 => absurd h3 (by decide)⟩
        clear h3
        apply hB
        dsimp only [rgo, rfd, Bcall0, Nat.beq, rwp, rst, lv_args, rlk, rs1, rs2, rdl, rky, rct, rcs, rcd, rno, rsw, Value.category, List.filter, List.take, List.drop, List.reverse, List.reverseAux, List.cons_append, List.nil_append, Option.toList, Int.toNat, Int.reduceToNat, if_pos, if_neg, reduceIte, ↓reduceIte, Nat.reduceAdd, Nat.reduceEqDiff, Nat.reduceBEq, beq_self_eq_true, Bool.not_true, Bool.not_false, Bool.and_true, Bool.and_false, Bool.true_and, Bool.false_and, gI_sI, gI_sL, gI_sA, gI_sM, gL_sI, gL_sL, gL_sA, gL_sM, aI_sI, aI_sL, aI_sA, aI_sM, aL_sI, aL_sL, aL_sA, aL_sM, Bcall0_0, Bcall0_21, Bcall0_22, Bcall0_28, Bcall0_37, Bcall0_45, Bcall0_51, Bcall0_62, Bcall0_70, Bcall0_71, Bcall0_87, Bcall0_88, Bcall0_101, Bcall0_107, Bcall0_143, oi_0, oi_1, oi_10, oi_11, oi_30, oi_4, P_begin, P_count1, P_next, P_pop1, P_put, P_slot, P_tell]; try dsimp only
        refine ⟨fun h4 => ?_, fun h4 => ?_⟩
        · apply hB
          dsimp only [rgo, rfd, Bcall0, Nat.beq, rwp, rst, lv_args, rlk, rs1, rs2, rdl, rky, rct, rcs, rcd, rno, rsw, Value.category, List.filter, List.take, List.drop, List.reverse, List.reverseAux, List.cons_append, List.nil_append, Option.toList, Int.toNat, Int.reduceToNat, if_pos, if_neg, reduceIte, ↓reduceIte, Nat.reduceAdd, Nat.reduceEqDiff, Nat.reduceBEq, beq_self_eq_true, Bool.not_true, Bool.not_false, Bool.and_true, Bool.and_false, Bool.true_and, Bool.false_and, gI_sI, gI_sL, gI_sA, gI_sM, gL_sI, gL_sL, gL_sA, gL_sM, aI_sI, aI_sL, aI_sA, aI_sM, aL_sI, aL_sL, aL_sA, aL_sM, Bcall0_0, Bcall0_21, Bcall0_22, Bcall0_28, Bcall0_37, Bcall0_45, Bcall0_51, Bcall0_62, Bcall0_70, Bcall0_71, Bcall0_87, Bcall0_88, Bcall0_101, Bcall0_107, Bcall0_143, oi_0, oi_1, oi_10, oi_11, oi_30, oi_4, P_begin, P_count1, P_next, P_pop1, P_put, P_slot, P_tell]; try dsimp only
          refine ⟨rfl, rfl, (by decide), (⟨by lia, by lia⟩), fun w5 τ5 hq5 => ?_⟩
          obtain ⟨r5, rfl, hr5⟩ := hq5
          rcases hr5 with ⟨rfl, hs5, rfl⟩ | ⟨rfl, hs5, rfl⟩
          · dsimp only [Option.toList, List.cons_append, List.nil_append, Nat.beq, gI_sI, gI_sL, gI_sA, gI_sM, gL_sI, gL_sL, gL_sA, gL_sM, aI_sI, aI_sL, aI_sA, aI_sM, aL_sI, aL_sL, aL_sA, aL_sM]
            refine ⟨fun h6 => absurd h6 (by decide), fun h6 => ?_⟩
            clear h6
            apply hB
            dsimp only [rgo, rfd, Bcall0, Nat.beq, rwp, rst, lv_args, rlk, rs1, rs2, rdl, rky, rct, rcs, rcd, rno, rsw, Value.category, List.filter, List.take, List.drop, List.reverse, List.reverseAux, List.cons_append, List.nil_append, Option.toList, Int.toNat, Int.reduceToNat, if_pos, if_neg, reduceIte, ↓reduceIte, Nat.reduceAdd, Nat.reduceEqDiff, Nat.reduceBEq, beq_self_eq_true, Bool.not_true, Bool.not_false, Bool.and_true, Bool.and_false, Bool.true_and, Bool.false_and, gI_sI, gI_sL, gI_sA, gI_sM, gL_sI, gL_sL, gL_sA, gL_sM, aI_sI, aI_sL, aI_sA, aI_sM, aL_sI, aL_sL, aL_sA, aL_sM, Bcall0_0, Bcall0_21, Bcall0_22, Bcall0_28, Bcall0_37, Bcall0_45, Bcall0_51, Bcall0_62, Bcall0_70, Bcall0_71, Bcall0_87, Bcall0_88, Bcall0_101, Bcall0_107, Bcall0_143, oi_0, oi_1, oi_10, oi_11, oi_30, oi_4, P_begin, P_count1, P_next, P_pop1, P_put, P_slot, P_tell]; try dsimp only
            exact ⟨rfl, by (repeat (first | exact Fz.rf | refine Fz.a ?_ rfl | refine Fz.i ?_ rfl | refine Fz.g ?_ rfl | refine Fz.m ?_ rfl)), (by unfold CN; (try dsimp only [Nat.beq, gI_sI, gI_sL, gI_sA, gI_sM, gL_sI, gL_sL, gL_sA, gL_sM, aI_sI, aI_sL, aI_sA, aI_sM, aL_sI, aL_sL, aL_sA, aL_sM]); refine ⟨⟨by lia, by lia, by lia⟩, ⟨by lia, by lia⟩, ⟨by lia, by lia⟩, by lia, by lia⟩), Or.inl (show ¬ (4 : Int32) = 0 by decide)⟩
          · dsimp only [Option.toList, List.cons_append, List.nil_append, Nat.beq, gI_sI, gI_sL, gI_sA, gI_sM, gL_sI, gL_sL, gL_sA, gL_sM, aI_sI, aI_sL, aI_sA, aI_sM, aL_sI, aL_sL, aL_sA, aL_sM]
            refine ⟨fun h7 => ?_, fun h7 => absurd h7 (by decide)⟩
            clear h7
            apply hB
            dsimp only [rgo, rfd, Bcall0, Nat.beq, rwp, rst, lv_args, rlk, rs1, rs2, rdl, rky, rct, rcs, rcd, rno, rsw, Value.category, List.filter, List.take, List.drop, List.reverse, List.reverseAux, List.cons_append, List.nil_append, Option.toList, Int.toNat, Int.reduceToNat, if_pos, if_neg, reduceIte, ↓reduceIte, Nat.reduceAdd, Nat.reduceEqDiff, Nat.reduceBEq, beq_self_eq_true, Bool.not_true, Bool.not_false, Bool.and_true, Bool.and_false, Bool.true_and, Bool.false_and, gI_sI, gI_sL, gI_sA, gI_sM, gL_sI, gL_sL, gL_sA, gL_sM, aI_sI, aI_sL, aI_sA, aI_sM, aL_sI, aL_sL, aL_sA, aL_sM, Bcall0_0, Bcall0_21, Bcall0_22, Bcall0_28, Bcall0_37, Bcall0_45, Bcall0_51, Bcall0_62, Bcall0_70, Bcall0_71, Bcall0_87, Bcall0_88, Bcall0_101, Bcall0_107, Bcall0_143, oi_0, oi_1, oi_10, oi_11, oi_30, oi_4, P_begin, P_count1, P_next, P_pop1, P_put, P_slot, P_tell]; try dsimp only
            refine ⟨rfl, rfl, ?_⟩
            refine hW 101 [(0, .ref 1000), (1, .int c), (2, .int (aI σ 83 c.toNatClampNeg)), (3, .int (aI σ 20 c.toNatClampNeg)), (4, .int (gI σ 141)), (5, .int 0)] _ _ _ (by simp [rdl, rky]) (t101 _ rfl (by lia) (show gI σ 129 < 30 from hs5) (by assumption))
        · apply hB
          dsimp only [rgo, rfd, Bcall0, Nat.beq, rwp, rst, lv_args, rlk, rs1, rs2, rdl, rky, rct, rcs, rcd, rno, rsw, Value.category, List.filter, List.take, List.drop, List.reverse, List.reverseAux, List.cons_append, List.nil_append, Option.toList, Int.toNat, Int.reduceToNat, if_pos, if_neg, reduceIte, ↓reduceIte, Nat.reduceAdd, Nat.reduceEqDiff, Nat.reduceBEq, beq_self_eq_true, Bool.not_true, Bool.not_false, Bool.and_true, Bool.and_false, Bool.true_and, Bool.false_and, gI_sI, gI_sL, gI_sA, gI_sM, gL_sI, gL_sL, gL_sA, gL_sM, aI_sI, aI_sL, aI_sA, aI_sM, aL_sI, aL_sL, aL_sA, aL_sM, Bcall0_0, Bcall0_21, Bcall0_22, Bcall0_28, Bcall0_37, Bcall0_45, Bcall0_51, Bcall0_62, Bcall0_70, Bcall0_71, Bcall0_87, Bcall0_88, Bcall0_101, Bcall0_107, Bcall0_143, oi_0, oi_1, oi_10, oi_11, oi_30, oi_4, P_begin, P_count1, P_next, P_pop1, P_put, P_slot, P_tell]; try dsimp only
          refine ⟨rfl, fun h8 => ?_, fun h8 => ?_⟩
          · apply hB
            dsimp only [rgo, rfd, Bcall0, Nat.beq, rwp, rst, lv_args, rlk, rs1, rs2, rdl, rky, rct, rcs, rcd, rno, rsw, Value.category, List.filter, List.take, List.drop, List.reverse, List.reverseAux, List.cons_append, List.nil_append, Option.toList, Int.toNat, Int.reduceToNat, if_pos, if_neg, reduceIte, ↓reduceIte, Nat.reduceAdd, Nat.reduceEqDiff, Nat.reduceBEq, beq_self_eq_true, Bool.not_true, Bool.not_false, Bool.and_true, Bool.and_false, Bool.true_and, Bool.false_and, gI_sI, gI_sL, gI_sA, gI_sM, gL_sI, gL_sL, gL_sA, gL_sM, aI_sI, aI_sL, aI_sA, aI_sM, aL_sI, aL_sL, aL_sA, aL_sM, Bcall0_0, Bcall0_21, Bcall0_22, Bcall0_28, Bcall0_37, Bcall0_45, Bcall0_51, Bcall0_62, Bcall0_70, Bcall0_71, Bcall0_87, Bcall0_88, Bcall0_101, Bcall0_107, Bcall0_143, oi_0, oi_1, oi_10, oi_11, oi_30, oi_4, P_begin, P_count1, P_next, P_pop1, P_put, P_slot, P_tell]; try dsimp only
            refine ⟨fun h9 => ?_, fun h9 => ?_⟩
            · apply hB
              dsimp only [rgo, rfd, Bcall0, Nat.beq, rwp, rst, lv_args, rlk, rs1, rs2, rdl, rky, rct, rcs, rcd, rno, rsw, Value.category, List.filter, List.take, List.drop, List.reverse, List.reverseAux, List.cons_append, List.nil_append, Option.toList, Int.toNat, Int.reduceToNat, if_pos, if_neg, reduceIte, ↓reduceIte, Nat.reduceAdd, Nat.reduceEqDiff, Nat.reduceBEq, beq_self_eq_true, Bool.not_true, Bool.not_false, Bool.and_true, Bool.and_false, Bool.true_and, Bool.false_and, gI_sI, gI_sL, gI_sA, gI_sM, gL_sI, gL_sL, gL_sA, gL_sM, aI_sI, aI_sL, aI_sA, aI_sM, aL_sI, aL_sL, aL_sA, aL_sM, Bcall0_0, Bcall0_21, Bcall0_22, Bcall0_28, Bcall0_37, Bcall0_45, Bcall0_51, Bcall0_62, Bcall0_70, Bcall0_71, Bcall0_87, Bcall0_88, Bcall0_101, Bcall0_107, Bcall0_143, oi_0, oi_1, oi_10, oi_11, oi_30, oi_4, P_begin, P_count1, P_next, P_pop1, P_put, P_slot, P_tell]; try dsimp only
              refine ⟨rfl, (by decide), (⟨by lia, by lia⟩), fun w10 τ10 hq10 => ?_⟩
              obtain ⟨r10, rfl, rfl⟩ := hq10
              dsimp only [Option.toList, List.cons_append, List.nil_append, Nat.beq, gI_sI, gI_sL, gI_sA, gI_sM, gL_sI, gL_sL, gL_sA, gL_sM, aI_sI, aI_sL, aI_sA, aI_sM, aL_sI, aL_sL, aL_sA, aL_sM]
              refine ⟨rfl, (by decide), (⟨by lia, by lia⟩), fun w11 τ11 hq11 => ?_⟩
              obtain ⟨rfl, ht11⟩ := hq11
              rcases ht11 with rfl | ⟨hl11, f11, rfl⟩
              · dsimp only [Option.toList, List.cons_append, List.nil_append, Nat.beq, gI_sI, gI_sL, gI_sA, gI_sM, gL_sI, gL_sL, gL_sA, gL_sM, aI_sI, aI_sL, aI_sA, aI_sM, aL_sI, aL_sL, aL_sA, aL_sM]
                apply hB
                dsimp only [rgo, rfd, Bcall0, Nat.beq, rwp, rst, lv_args, rlk, rs1, rs2, rdl, rky, rct, rcs, rcd, rno, rsw, Value.category, List.filter, List.take, List.drop, List.reverse, List.reverseAux, List.cons_append, List.nil_append, Option.toList, Int.toNat, Int.reduceToNat, if_pos, if_neg, reduceIte, ↓reduceIte, Nat.reduceAdd, Nat.reduceEqDiff, Nat.reduceBEq, beq_self_eq_true, Bool.not_true, Bool.not_false, Bool.and_true, Bool.and_false, Bool.true_and, Bool.false_and, gI_sI, gI_sL, gI_sA, gI_sM, gL_sI, gL_sL, gL_sA, gL_sM, aI_sI, aI_sL, aI_sA, aI_sM, aL_sI, aL_sL, aL_sA, aL_sM, Bcall0_0, Bcall0_21, Bcall0_22, Bcall0_28, Bcall0_37, Bcall0_45, Bcall0_51, Bcall0_62, Bcall0_70, Bcall0_71, Bcall0_87, Bcall0_88, Bcall0_101, Bcall0_107, Bcall0_143, oi_0, oi_1, oi_10, oi_11, oi_30, oi_4, P_begin, P_count1, P_next, P_pop1, P_put, P_slot, P_tell]; try dsimp only
                first
                  | (exact ⟨rfl, by (repeat (first | exact Fz.rf | refine Fz.a ?_ rfl | refine Fz.i ?_ rfl | refine Fz.g ?_ rfl | refine Fz.m ?_ rfl)), (by unfold CN; (try dsimp only [Nat.beq, gI_sI, gI_sL, gI_sA, gI_sM, gL_sI, gL_sL, gL_sA, gL_sM, aI_sI, aI_sL, aI_sA, aI_sM, aL_sI, aL_sL, aL_sA, aL_sM]); refine ⟨⟨by lia, by lia, by lia⟩, ⟨by lia, by lia⟩, ⟨by lia, by lia⟩, by lia, by lia⟩), Or.inl (show ¬ (5 : Int32) = 0 by decide)⟩)
                  | (have hl11 : gI σ 148 < 200 := hl11; exact ⟨rfl, call_b hG hC hS ho (by (repeat (first | exact Fz.rf | refine Fz.a ?_ rfl | refine Fz.i ?_ rfl | refine Fz.g ?_ rfl | refine Fz.m ?_ rfl))) (by unfold CN; (try dsimp only [Nat.beq, gI_sI, gI_sL, gI_sA, gI_sM, gL_sI, gL_sL, gL_sA, gL_sM, aI_sI, aI_sL, aI_sA, aI_sM, aL_sI, aL_sL, aL_sA, aL_sM]); refine ⟨⟨by lia, by lia, by lia⟩, ⟨by lia, by lia⟩, ⟨by lia, by lia⟩, by lia, by lia⟩) (by assumption) rfl rfl h0 rfl rfl rfl (fun k k1 k2 => by (have hk : k = 131 ∨ k = 132 ∨ k = 133 ∨ k = 134 ∨ k = 135 ∨ k = 136 ∨ k = 137 ∨ k = 138 ∨ k = 139 := (by omega)); (rcases hk with rfl | rfl | rfl | rfl | rfl | rfl | rfl | rfl | rfl <;> rfl)) (Or.inr ⟨show aI σ 20 c.toNatClampNeg = 1 by lia, show aI σ 81 c.toNatClampNeg = 5 by lia, rfl⟩)⟩)
              · dsimp only [Option.toList, List.cons_append, List.nil_append, Nat.beq, gI_sI, gI_sL, gI_sA, gI_sM, gL_sI, gL_sL, gL_sA, gL_sM, aI_sI, aI_sL, aI_sA, aI_sM, aL_sI, aL_sL, aL_sA, aL_sM]
                apply hB
                dsimp only [rgo, rfd, Bcall0, Nat.beq, rwp, rst, lv_args, rlk, rs1, rs2, rdl, rky, rct, rcs, rcd, rno, rsw, Value.category, List.filter, List.take, List.drop, List.reverse, List.reverseAux, List.cons_append, List.nil_append, Option.toList, Int.toNat, Int.reduceToNat, if_pos, if_neg, reduceIte, ↓reduceIte, Nat.reduceAdd, Nat.reduceEqDiff, Nat.reduceBEq, beq_self_eq_true, Bool.not_true, Bool.not_false, Bool.and_true, Bool.and_false, Bool.true_and, Bool.false_and, gI_sI, gI_sL, gI_sA, gI_sM, gL_sI, gL_sL, gL_sA, gL_sM, aI_sI, aI_sL, aI_sA, aI_sM, aL_sI, aL_sL, aL_sA, aL_sM, Bcall0_0, Bcall0_21, Bcall0_22, Bcall0_28, Bcall0_37, Bcall0_45, Bcall0_51, Bcall0_62, Bcall0_70, Bcall0_71, Bcall0_87, Bcall0_88, Bcall0_101, Bcall0_107, Bcall0_143, oi_0, oi_1, oi_10, oi_11, oi_30, oi_4, P_begin, P_count1, P_next, P_pop1, P_put, P_slot, P_tell]; try dsimp only
                first
                  | (exact ⟨rfl, by (repeat (first | exact Fz.rf | refine Fz.a ?_ rfl | refine Fz.i ?_ rfl | refine Fz.g ?_ rfl | refine Fz.m ?_ rfl)), (by unfold CN; (try dsimp only [Nat.beq, gI_sI, gI_sL, gI_sA, gI_sM, gL_sI, gL_sL, gL_sA, gL_sM, aI_sI, aI_sL, aI_sA, aI_sM, aL_sI, aL_sL, aL_sA, aL_sM]); refine ⟨⟨by lia, by lia, by lia⟩, ⟨by lia, by lia⟩, ⟨by lia, by lia⟩, by lia, by lia⟩), Or.inl (show ¬ (5 : Int32) = 0 by decide)⟩)
                  | (have hl11 : gI σ 148 < 200 := hl11; exact ⟨rfl, call_b hG hC hS ho (by (repeat (first | exact Fz.rf | refine Fz.a ?_ rfl | refine Fz.i ?_ rfl | refine Fz.g ?_ rfl | refine Fz.m ?_ rfl))) (by unfold CN; (try dsimp only [Nat.beq, gI_sI, gI_sL, gI_sA, gI_sM, gL_sI, gL_sL, gL_sA, gL_sM, aI_sI, aI_sL, aI_sA, aI_sM, aL_sI, aL_sL, aL_sA, aL_sM]); refine ⟨⟨by lia, by lia, by lia⟩, ⟨by lia, by lia⟩, ⟨by lia, by lia⟩, by lia, by lia⟩) (by assumption) rfl rfl h0 rfl rfl rfl (fun k k1 k2 => by (have hk : k = 131 ∨ k = 132 ∨ k = 133 ∨ k = 134 ∨ k = 135 ∨ k = 136 ∨ k = 137 ∨ k = 138 ∨ k = 139 := (by omega)); (rcases hk with rfl | rfl | rfl | rfl | rfl | rfl | rfl | rfl | rfl <;> rfl)) (Or.inr ⟨show aI σ 20 c.toNatClampNeg = 1 by lia, show aI σ 81 c.toNatClampNeg = 5 by lia, rfl⟩)⟩)
            · apply hB
              dsimp only [rgo, rfd, Bcall0, Nat.beq, rwp, rst, lv_args, rlk, rs1, rs2, rdl, rky, rct, rcs, rcd, rno, rsw, Value.category, List.filter, List.take, List.drop, List.reverse, List.reverseAux, List.cons_append, List.nil_append, Option.toList, Int.toNat, Int.reduceToNat, if_pos, if_neg, reduceIte, ↓reduceIte, Nat.reduceAdd, Nat.reduceEqDiff, Nat.reduceBEq, beq_self_eq_true, Bool.not_true, Bool.not_false, Bool.and_true, Bool.and_false, Bool.true_and, Bool.false_and, gI_sI, gI_sL, gI_sA, gI_sM, gL_sI, gL_sL, gL_sA, gL_sM, aI_sI, aI_sL, aI_sA, aI_sM, aL_sI, aL_sL, aL_sA, aL_sM, Bcall0_0, Bcall0_21, Bcall0_22, Bcall0_28, Bcall0_37, Bcall0_45, Bcall0_51, Bcall0_62, Bcall0_70, Bcall0_71, Bcall0_87, Bcall0_88, Bcall0_101, Bcall0_107, Bcall0_143, oi_0, oi_1, oi_10, oi_11, oi_30, oi_4, P_begin, P_count1, P_next, P_pop1, P_put, P_slot, P_tell]; try dsimp only
              refine ⟨rfl, (by decide), (⟨⟨by lia, by lia⟩, by lia, by lia⟩), fun w12 τ12 hq12 => ?_⟩
              obtain ⟨r12, rfl, rfl⟩ := hq12
              dsimp only [Option.toList, List.cons_append, List.nil_append, Nat.beq, gI_sI, gI_sL, gI_sA, gI_sM, gL_sI, gL_sL, gL_sA, gL_sM, aI_sI, aI_sL, aI_sA, aI_sM, aL_sI, aL_sL, aL_sA, aL_sM]
              refine ⟨rfl, (by decide), (⟨by lia, by lia⟩), fun w13 τ13 hq13 => ?_⟩
              obtain ⟨rfl, f13, e13⟩ := hq13
              obtain rfl := e13.symm
              dsimp only [Option.toList, List.cons_append, List.nil_append, Nat.beq, gI_sI, gI_sL, gI_sA, gI_sM, gL_sI, gL_sL, gL_sA, gL_sM, aI_sI, aI_sL, aI_sA, aI_sM, aL_sI, aL_sL, aL_sA, aL_sM]
              apply hB
              dsimp only [rgo, rfd, Bcall0, Nat.beq, rwp, rst, lv_args, rlk, rs1, rs2, rdl, rky, rct, rcs, rcd, rno, rsw, Value.category, List.filter, List.take, List.drop, List.reverse, List.reverseAux, List.cons_append, List.nil_append, Option.toList, Int.toNat, Int.reduceToNat, if_pos, if_neg, reduceIte, ↓reduceIte, Nat.reduceAdd, Nat.reduceEqDiff, Nat.reduceBEq, beq_self_eq_true, Bool.not_true, Bool.not_false, Bool.and_true, Bool.and_false, Bool.true_and, Bool.false_and, gI_sI, gI_sL, gI_sA, gI_sM, gL_sI, gL_sL, gL_sA, gL_sM, aI_sI, aI_sL, aI_sA, aI_sM, aL_sI, aL_sL, aL_sA, aL_sM, Bcall0_0, Bcall0_21, Bcall0_22, Bcall0_28, Bcall0_37, Bcall0_45, Bcall0_51, Bcall0_62, Bcall0_70, Bcall0_71, Bcall0_87, Bcall0_88, Bcall0_101, Bcall0_107, Bcall0_143, oi_0, oi_1, oi_10, oi_11, oi_30, oi_4, P_begin, P_count1, P_next, P_pop1, P_put, P_slot, P_tell]; try dsimp only
              exact ⟨rfl, call_b hG hC hS ho (by (repeat (first | exact Fz.rf | refine Fz.a ?_ rfl | refine Fz.i ?_ rfl | refine Fz.g ?_ rfl | refine Fz.m ?_ rfl))) (by unfold CN; (try dsimp only [Nat.beq, gI_sI, gI_sL, gI_sA, gI_sM, gL_sI, gL_sL, gL_sA, gL_sM, aI_sI, aI_sL, aI_sA, aI_sM, aL_sI, aL_sL, aL_sA, aL_sM]); refine ⟨⟨by lia, by lia, by lia⟩, ⟨by lia, by lia⟩, ⟨by lia, by lia⟩, by lia, by lia⟩) (by assumption) rfl rfl h0 rfl rfl rfl (fun k k1 k2 => by (have hk : k = 131 ∨ k = 132 ∨ k = 133 ∨ k = 134 ∨ k = 135 ∨ k = 136 ∨ k = 137 ∨ k = 138 ∨ k = 139 := (by omega)); (rcases hk with rfl | rfl | rfl | rfl | rfl | rfl | rfl | rfl | rfl <;> rfl)) (Or.inl ⟨show aI σ 20 c.toNatClampNeg = 0 by lia, show aI σ 81 c.toNatClampNeg = 3 by lia, rfl⟩)⟩
          · apply hB
            dsimp only [rgo, rfd, Bcall0, Nat.beq, rwp, rst, lv_args, rlk, rs1, rs2, rdl, rky, rct, rcs, rcd, rno, rsw, Value.category, List.filter, List.take, List.drop, List.reverse, List.reverseAux, List.cons_append, List.nil_append, Option.toList, Int.toNat, Int.reduceToNat, if_pos, if_neg, reduceIte, ↓reduceIte, Nat.reduceAdd, Nat.reduceEqDiff, Nat.reduceBEq, beq_self_eq_true, Bool.not_true, Bool.not_false, Bool.and_true, Bool.and_false, Bool.true_and, Bool.false_and, gI_sI, gI_sL, gI_sA, gI_sM, gL_sI, gL_sL, gL_sA, gL_sM, aI_sI, aI_sL, aI_sA, aI_sM, aL_sI, aL_sL, aL_sA, aL_sM, Bcall0_0, Bcall0_21, Bcall0_22, Bcall0_28, Bcall0_37, Bcall0_45, Bcall0_51, Bcall0_62, Bcall0_70, Bcall0_71, Bcall0_87, Bcall0_88, Bcall0_101, Bcall0_107, Bcall0_143, oi_0, oi_1, oi_10, oi_11, oi_30, oi_4, P_begin, P_count1, P_next, P_pop1, P_put, P_slot, P_tell]; try dsimp only
            refine ⟨rfl, ?_⟩
            apply hB
            dsimp only [rgo, rfd, Bcall0, Nat.beq, rwp, rst, lv_args, rlk, rs1, rs2, rdl, rky, rct, rcs, rcd, rno, rsw, Value.category, List.filter, List.take, List.drop, List.reverse, List.reverseAux, List.cons_append, List.nil_append, Option.toList, Int.toNat, Int.reduceToNat, if_pos, if_neg, reduceIte, ↓reduceIte, Nat.reduceAdd, Nat.reduceEqDiff, Nat.reduceBEq, beq_self_eq_true, Bool.not_true, Bool.not_false, Bool.and_true, Bool.and_false, Bool.true_and, Bool.false_and, gI_sI, gI_sL, gI_sA, gI_sM, gL_sI, gL_sL, gL_sA, gL_sM, aI_sI, aI_sL, aI_sA, aI_sM, aL_sI, aL_sL, aL_sA, aL_sM, Bcall0_0, Bcall0_21, Bcall0_22, Bcall0_28, Bcall0_37, Bcall0_45, Bcall0_51, Bcall0_62, Bcall0_70, Bcall0_71, Bcall0_87, Bcall0_88, Bcall0_101, Bcall0_107, Bcall0_143, oi_0, oi_1, oi_10, oi_11, oi_30, oi_4, P_begin, P_count1, P_next, P_pop1, P_put, P_slot, P_tell]; try dsimp only
            exact ⟨rfl, by (repeat (first | exact Fz.rf | refine Fz.a ?_ rfl | refine Fz.i ?_ rfl | refine Fz.g ?_ rfl | refine Fz.m ?_ rfl)), (by unfold CN; (try dsimp only [Nat.beq, gI_sI, gI_sL, gI_sA, gI_sM, gL_sI, gL_sL, gL_sA, gL_sM, aI_sI, aI_sL, aI_sA, aI_sM, aL_sI, aL_sL, aL_sA, aL_sM]); refine ⟨⟨by lia, by lia, by lia⟩, ⟨by lia, by lia⟩, ⟨by lia, by lia⟩, by lia, by lia⟩), Or.inl (show ¬ (4 : Int32) = 0 by decide)⟩
    next => exact hP.elim
