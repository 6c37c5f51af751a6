def RY (σ τ : RS) : Prop := Ry σ τ ∧ (¬ gI τ 142 = 0 ∨ (gI τ 142 = gI σ 142 ∧ RA σ τ ∧ PG σ σ τ))
theorem LW.jmp {σ X Y : RS} {how to : Int32} (h : LW σ X how to) (hn : ¬ 0 < gI X 133 ∨ ¬ aI X 135 (nT (gI X 133 - 1)) = gI X 129) (h1 : how = 1) (e : Y = sI X 141 to) : RY σ Y := by
  obtain ⟨i, b, t0, m, ⟨a1, a2, a3⟩, hB, ⟨c1, c2⟩, ⟨d1, d2⟩, j1⟩ := h.bot hn
  obtain ⟨f1, ⟨f2, f3, f4, f5⟩, -⟩ := h
  have j1 : GT σ m to [] ∧ vp σ (nT (gI σ 141) - 1) < vp σ (nT to) := by
    rcases j1 with q | q
    · exact q.2
    · rw [h1] at q; exact absurd q (by decide)
  obtain ⟨⟨h0, l, w, q1, q2, -, -⟩, q5⟩ := j1
  have q2 : trs l = [] := (List.append_eq_nil_iff.mp q2.symm).2
  subst e
  refine ⟨f1.i rfl, Or.inr ⟨f2, ⟨i, b, t0, m, l, [], ⟨a1, a2, a3⟩, hB.eq (fun _ _ => ⟨rfl, rfl⟩) (fun _ _ _ _ _ => rfl), ⟨⟨h0, q1.1⟩, q1.2.2, q1.2.1⟩, ⟨c1, c2⟩, d1, ?_⟩, Or.inr ⟨by show nT (gI X 129) = _; rw [f3], q5⟩⟩⟩
  rw [q2]
  exact d2
theorem LW.bp {σ X : RS} {how to : Int32} (hG : RG σ) (h : LW σ X how to) (hn : ¬ 0 < gI X 133 ∨ ¬ aI X 135 (nT (gI X 133 - 1)) = gI X 129) : BP X := by
  obtain ⟨i, b, t0, m, a1, hB, c1, d1, j1⟩ := h.bot hn
  have hf := h.1.z
  exact ⟨hG.fz hf, i, b, t0, m, a1, hf.se.bl hB, c1, d1⟩
theorem LW.bq {σ X τ : RS} {how to : Int32} (h : LW σ X how to) (hq : BQ X τ) : RY σ τ := by
  refine ⟨h.1.tr hq.1, ?_⟩
  rcases hq.2 with q | ⟨q1, q2, q3⟩
  · exact Or.inl q
  · refine Or.inr ⟨q1.trans h.2.1.1, h.1.z.se.sy.ra q2, Or.inl ?_⟩
    rw [← h.2.1.2.1]
    exact q3
theorem LT.bd {σ X : RS} {how to : Int32} {k : Nat} (hG : RG σ) (h : LT σ X how to k) : k < 501 ∧ 0 ≤ aI X 134 (nT (gI X 133 - 1)) ∧ nT (aI X 134 (nT (gI X 133 - 1))) = k := by
  obtain ⟨f1, f2, i, b, t0, m, l1, x, r, w, t', a1, hB, ⟨s1, s2, s3⟩, hx, e1, c1, ⟨d1, d2⟩, ⟨g1, g2⟩, j1⟩ := h
  have h0 : 0 < gI X 133 := (nlt (by decide) d1).mpr (by rw [d2]; show 0 < t' + 1; omega)
  have ey : nT (gI X 133 - 1) = t' := by have := nT_sub h0; omega
  have hk := hG.k.thg (Nat.le_of_lt s1) s3 (bs_t hx).2
  have ht := (hG.k.j.th).1
  have ht : nT (gI σ 49) ≤ 501 := nT_le (y := 501) ht.1 ht.2
  rw [ey]
  exact ⟨by omega, g2.1.1, g2.1.2⟩
def P_leave_ : RP := fun As σ => match As with
  | [.int how, .int to, .long v] => RG σ ∧ LW σ σ how to
  | _ => False
def Q_leave_ : RQ := fun As σ w τ => match As with
  | [.int how, .int to, .long v] => w = none ∧ RY σ τ
  | _ => False
set_option maxRecDepth 100000 in
set_option maxHeartbeats 4000000 in
theorem m_leave_ (l : Launch) : RMet l 3 147 P_leave_ Q_leave_ := by
  refine RMet.by Bleave_ [(148, P_back, Q_back)] roleave_ okBleave_ (ctc (m_back l) (by decide) ct0) ?_ ?_
  · intro As σ hP
    unfold P_leave_ at hP
    split at hP
    next => exact Nat.le_of_ble_eq_true rfl
    next => exact hP.elim
  · intro As σ hP G hB hW
    unfold P_leave_ at hP
    split at hP
    next how to v => 
      unfold Q_leave_ at hB
      dsimp only at hB
      obtain ⟨hG, hL⟩ := hP
      have t166 : ∀ X : RS, LW σ X how to → (¬ 0 < gI X 133 ∨ ¬ aI X 135 (nT (gI X 133 - 1)) = gI X 129) → G 166 [(0, .ref 1000), (1, .int how), (2, .int to), (3, .long v)] [] X := by
        intro X hX hn
        apply hB
        dsimp only [rgo, rfd, Bleave_, Nat.beq, rwp, rst, lv_args, rlk, rs1, rs2, rdl, rky, rct, rcs, rcd, rno, rsw, Value.category, List.filter, List.take, List.drop, List.reverse, List.reverseAux, List.cons_append, List.nil_append, Option.toList, Int.toNat, Int.reduceToNat, if_pos, if_neg, reduceIte, ↓reduceIte, Nat.reduceAdd, Nat.reduceEqDiff, Nat.reduceBEq, beq_self_eq_true, Bool.not_true, Bool.not_false, Bool.and_true, Bool.and_false, Bool.true_and, Bool.false_and, gI_sI, gI_sL, gI_sA, gI_sM, gL_sI, gL_sL, gL_sA, gL_sM, aI_sI, aI_sL, aI_sA, aI_sM, aL_sI, aL_sL, aL_sA, aL_sM, Bleave__0, Bleave__7, Bleave__25, Bleave__47, Bleave__58, Bleave__69, Bleave__75, Bleave__86, Bleave__96, Bleave__153, Bleave__166, Bleave__171, Bleave__179, Bleave__184, oi_1, oi_2, P_back]; try dsimp only
        refine ⟨fun h1 => ?_, fun h1 => ?_⟩
        · apply hB
          dsimp only [rgo, rfd, Bleave_, Nat.beq, rwp, rst, lv_args, rlk, rs1, rs2, rdl, rky, rct, rcs, rcd, rno, rsw, Value.category, List.filter, List.take, List.drop, List.reverse, List.reverseAux, List.cons_append, List.nil_append, Option.toList, Int.toNat, Int.reduceToNat, if_pos, if_neg, reduceIte, ↓reduceIte, Nat.reduceAdd, Nat.reduceEqDiff, Nat.reduceBEq, beq_self_eq_true, Bool.not_true, Bool.not_false, Bool.and_true, Bool.and_false, Bool.true_and, Bool.false_and, gI_sI, gI_sL, gI_sA, gI_sM, gL_sI, gL_sL, gL_sA, gL_sM, aI_sI, aI_sL, aI_sA, aI_sM, aL_sI, aL_sL, aL_sA, aL_sM, Bleave__0, Bleave__7, Bleave__25, Bleave__47, Bleave__58, Bleave__69, Bleave__75, Bleave__86, Bleave__96, Bleave__153, Bleave__166, Bleave__171, Bleave__179, Bleave__184, oi_1, oi_2, P_back]; try dsimp only
          refine ⟨rfl, (by decide), (hX.bp hG hn), fun w2 τ2 hq2 => ?_⟩
          have hw2 := hq2.1
          subst hw2
          dsimp only [Option.toList, List.cons_append, List.nil_append, Nat.beq, gI_sI, gI_sL, gI_sA, gI_sM, gL_sI, gL_sL, gL_sA, gL_sM, aI_sI, aI_sL, aI_sA, aI_sM, aL_sI, aL_sL, aL_sA, aL_sM]
          apply hB
          dsimp only [rgo, rfd, Bleave_, Nat.beq, rwp, rst, lv_args, rlk, rs1, rs2, rdl, rky, rct, rcs, rcd, rno, rsw, Value.category, List.filter, List.take, List.drop, List.reverse, List.reverseAux, List.cons_append, List.nil_append, Option.toList, Int.toNat, Int.reduceToNat, if_pos, if_neg, reduceIte, ↓reduceIte, Nat.reduceAdd, Nat.reduceEqDiff, Nat.reduceBEq, beq_self_eq_true, Bool.not_true, Bool.not_false, Bool.and_true, Bool.and_false, Bool.true_and, Bool.false_and, gI_sI, gI_sL, gI_sA, gI_sM, gL_sI, gL_sL, gL_sA, gL_sM, aI_sI, aI_sL, aI_sA, aI_sM, aL_sI, aL_sL, aL_sA, aL_sM, Bleave__0, Bleave__7, Bleave__25, Bleave__47, Bleave__58, Bleave__69, Bleave__75, Bleave__86, Bleave__96, Bleave__153, Bleave__166, Bleave__171, Bleave__179, Bleave__184, oi_1, oi_2, P_back]; try dsimp only
          exact ⟨rfl, hX.bq hq2.2⟩
        · apply hB
          dsimp only [rgo, rfd, Bleave_, Nat.beq, rwp, rst, lv_args, rlk, rs1, rs2, rdl, rky, rct, rcs, rcd, rno, rsw, Value.category, List.filter, List.take, List.drop, List.reverse, List.reverseAux, List.cons_append, List.nil_append, Option.toList, Int.toNat, Int.reduceToNat, if_pos, if_neg, reduceIte, ↓reduceIte, Nat.reduceAdd, Nat.reduceEqDiff, Nat.reduceBEq, beq_self_eq_true, Bool.not_true, Bool.not_false, Bool.and_true, Bool.and_false, Bool.true_and, Bool.false_and, gI_sI, gI_sL, gI_sA, gI_sM, gL_sI, gL_sL, gL_sA, gL_sM, aI_sI, aI_sL, aI_sA, aI_sM, aL_sI, aL_sL, aL_sA, aL_sM, Bleave__0, Bleave__7, Bleave__25, Bleave__47, Bleave__58, Bleave__69, Bleave__75, Bleave__86, Bleave__96, Bleave__153, Bleave__166, Bleave__171, Bleave__179, Bleave__184, oi_1, oi_2, P_back]; try dsimp only
          refine ⟨rfl, ?_⟩
          apply hB
          dsimp only [rgo, rfd, Bleave_, Nat.beq, rwp, rst, lv_args, rlk, rs1, rs2, rdl, rky, rct, rcs, rcd, rno, rsw, Value.category, List.filter, List.take, List.drop, List.reverse, List.reverseAux, List.cons_append, List.nil_append, Option.toList, Int.toNat, Int.reduceToNat, if_pos, if_neg, reduceIte, ↓reduceIte, Nat.reduceAdd, Nat.reduceEqDiff, Nat.reduceBEq, beq_self_eq_true, Bool.not_true, Bool.not_false, Bool.and_true, Bool.and_false, Bool.true_and, Bool.false_and, gI_sI, gI_sL, gI_sA, gI_sM, gL_sI, gL_sL, gL_sA, gL_sM, aI_sI, aI_sL, aI_sA, aI_sM, aL_sI, aL_sL, aL_sA, aL_sM, Bleave__0, Bleave__7, Bleave__25, Bleave__47, Bleave__58, Bleave__69, Bleave__75, Bleave__86, Bleave__96, Bleave__153, Bleave__166, Bleave__171, Bleave__179, Bleave__184, oi_1, oi_2, P_back]; try dsimp only
          exact ⟨rfl, hX.jmp hn (by lia) rfl⟩
      have loop : ∀ n : Nat, ∀ X : RS, nT (gI X 133) = n → LW σ X how to → G 0 [(0, .ref 1000), (1, .int how), (2, .int to), (3, .long v)] [] X := by
        intro n
        induction n using Nat.strongRecOn with
        | ind n loop =>
          intro X hk hX
          have hbd0 := hX.bd hG
          have t75 : LT σ X how to (nT (aI X 134 (nT (gI X 133 - 1)))) → 0 ≤ aI X 134 (gI X 133 - 1).toNatClampNeg → aI X 134 (gI X 133 - 1).toNatClampNeg < 501 → 0 < gI X 133 → ¬ (how = 1 ∧ aI σ 51 (nT (aI X 134 (nT (gI X 133 - 1)))) ≤ to ∧ to ≤ aI σ 55 (nT (aI X 134 (nT (gI X 133 - 1))))) → G 75 [(0, .ref 1000), (1, .int how), (2, .int to), (3, .long v), (5, .int (gI X 133 - 1)), (6, .int (aI X 134 (gI X 133 - 1).toNatClampNeg))] [] X := by
            intro hT hk0 hk5 h33 hn
            have r58 : aI X 58 = aI σ 58 := hX.1.2.2.1 58 rfl
            apply hB
            dsimp only [rgo, rfd, Bleave_, Nat.beq, rwp, rst, lv_args, rlk, rs1, rs2, rdl, rky, rct, rcs, rcd, rno, rsw, Value.category, List.filter, List.take, List.drop, List.reverse, List.reverseAux, List.cons_append, List.nil_append, Option.toList, Int.toNat, Int.reduceToNat, if_pos, if_neg, reduceIte, ↓reduceIte, Nat.reduceAdd, Nat.reduceEqDiff, Nat.reduceBEq, beq_self_eq_true, Bool.not_true, Bool.not_false, Bool.and_true, Bool.and_false, Bool.true_and, Bool.false_and, gI_sI, gI_sL, gI_sA, gI_sM, gL_sI, gL_sL, gL_sA, gL_sM, aI_sI, aI_sL, aI_sA, aI_sM, aL_sI, aL_sL, aL_sA, aL_sM, Bleave__0, Bleave__7, Bleave__25, Bleave__47, Bleave__58, Bleave__69, Bleave__75, Bleave__86, Bleave__96, Bleave__153, Bleave__166, Bleave__171, Bleave__179, Bleave__184, oi_1, oi_2, P_back]; try dsimp only
            refine ⟨rfl, rfl, (in_137 (by lia) (by lia)), fun h1 => ?_, fun h1 => ?_⟩
            · apply hB
              dsimp only [rgo, rfd, Bleave_, Nat.beq, rwp, rst, lv_args, rlk, rs1, rs2, rdl, rky, rct, rcs, rcd, rno, rsw, Value.category, List.filter, List.take, List.drop, List.reverse, List.reverseAux, List.cons_append, List.nil_append, Option.toList, Int.toNat, Int.reduceToNat, if_pos, if_neg, reduceIte, ↓reduceIte, Nat.reduceAdd, Nat.reduceEqDiff, Nat.reduceBEq, beq_self_eq_true, Bool.not_true, Bool.not_false, Bool.and_true, Bool.and_false, Bool.true_and, Bool.false_and, gI_sI, gI_sL, gI_sA, gI_sM, gL_sI, gL_sL, gL_sA, gL_sM, aI_sI, aI_sL, aI_sA, aI_sM, aL_sI, aL_sL, aL_sA, aL_sM, Bleave__0, Bleave__7, Bleave__25, Bleave__47, Bleave__58, Bleave__69, Bleave__75, Bleave__86, Bleave__96, Bleave__153, Bleave__166, Bleave__171, Bleave__179, Bleave__184, oi_1, oi_2, P_back]; try dsimp only
              refine ⟨rfl, rfl, ?_⟩
              exact hW 0 [(0, .ref 1000), (1, .int how), (2, .int to), (3, .long v)] _ _ _ (by simp [rdl, rky]) (loop _ (by rw [← hk]; exact (hT.nx hn rfl).2) _ rfl (hT.nx hn rfl).1)
            · apply hB
              dsimp only [rgo, rfd, Bleave_, Nat.beq, rwp, rst, lv_args, rlk, rs1, rs2, rdl, rky, rct, rcs, rcd, rno, rsw, Value.category, List.filter, List.take, List.drop, List.reverse, List.reverseAux, List.cons_append, List.nil_append, Option.toList, Int.toNat, Int.reduceToNat, if_pos, if_neg, reduceIte, ↓reduceIte, Nat.reduceAdd, Nat.reduceEqDiff, Nat.reduceBEq, beq_self_eq_true, Bool.not_true, Bool.not_false, Bool.and_true, Bool.and_false, Bool.true_and, Bool.false_and, gI_sI, gI_sL, gI_sA, gI_sM, gL_sI, gL_sL, gL_sA, gL_sM, aI_sI, aI_sL, aI_sA, aI_sM, aL_sI, aL_sL, aL_sA, aL_sM, Bleave__0, Bleave__7, Bleave__25, Bleave__47, Bleave__58, Bleave__69, Bleave__75, Bleave__86, Bleave__96, Bleave__153, Bleave__166, Bleave__171, Bleave__179, Bleave__184, oi_1, oi_2, P_back]; try dsimp only
              refine ⟨rfl, rfl, (in_58 (by lia) (by lia)), fun h2 => ?_, fun h2 => ?_⟩
              · apply hB
                dsimp only [rgo, rfd, Bleave_, Nat.beq, rwp, rst, lv_args, rlk, rs1, rs2, rdl, rky, rct, rcs, rcd, rno, rsw, Value.category, List.filter, List.take, List.drop, List.reverse, List.reverseAux, List.cons_append, List.nil_append, Option.toList, Int.toNat, Int.reduceToNat, if_pos, if_neg, reduceIte, ↓reduceIte, Nat.reduceAdd, Nat.reduceEqDiff, Nat.reduceBEq, beq_self_eq_true, Bool.not_true, Bool.not_false, Bool.and_true, Bool.and_false, Bool.true_and, Bool.false_and, gI_sI, gI_sL, gI_sA, gI_sM, gL_sI, gL_sL, gL_sA, gL_sM, aI_sI, aI_sL, aI_sA, aI_sM, aL_sI, aL_sL, aL_sA, aL_sM, Bleave__0, Bleave__7, Bleave__25, Bleave__47, Bleave__58, Bleave__69, Bleave__75, Bleave__86, Bleave__96, Bleave__153, Bleave__166, Bleave__171, Bleave__179, Bleave__184, oi_1, oi_2, P_back]; try dsimp only
                refine ⟨rfl, rfl, ?_⟩
                exact hW 0 [(0, .ref 1000), (1, .int how), (2, .int to), (3, .long v)] _ _ _ (by simp [rdl, rky]) (loop _ (by rw [← hk]; exact (hT.nx hn rfl).2) _ rfl (hT.nx hn rfl).1)
              · apply hB
                dsimp only [rgo, rfd, Bleave_, Nat.beq, rwp, rst, lv_args, rlk, rs1, rs2, rdl, rky, rct, rcs, rcd, rno, rsw, Value.category, List.filter, List.take, List.drop, List.reverse, List.reverseAux, List.cons_append, List.nil_append, Option.toList, Int.toNat, Int.reduceToNat, if_pos, if_neg, reduceIte, ↓reduceIte, Nat.reduceAdd, Nat.reduceEqDiff, Nat.reduceBEq, beq_self_eq_true, Bool.not_true, Bool.not_false, Bool.and_true, Bool.and_false, Bool.true_and, Bool.false_and, gI_sI, gI_sL, gI_sA, gI_sM, gL_sI, gL_sL, gL_sA, gL_sM, aI_sI, aI_sL, aI_sA, aI_sM, aL_sI, aL_sL, aL_sA, aL_sM, Bleave__0, Bleave__7, Bleave__25, Bleave__47, Bleave__58, Bleave__69, Bleave__75, Bleave__86, Bleave__96, Bleave__153, Bleave__166, Bleave__171, Bleave__179, Bleave__184, oi_1, oi_2, P_back]; try dsimp only
                refine ⟨rfl, rfl, (in_136 (by lia) (by lia)), rfl, rfl, rfl, (in_137 (by lia) (by lia)), rfl, rfl, (in_138 (by lia) (by lia)), rfl, rfl, (in_139 (by lia) (by lia)), rfl, rfl, (in_140 (by lia) (by lia)), rfl, rfl, (in_58 (by lia) (by lia)), rfl, ?_⟩
                refine ⟨rfl, by (repeat (first | exact hX.1 | refine Ry.a ?_ rfl | refine Ry.i ?_ rfl | refine Ry.g ?_ rfl | refine Ry.m ?_ rfl)), Or.inr ⟨hX.2.1.1, hT.fin hG hn (by show aI X 137 (gI X 133 - 1).toNatClampNeg < 2; lia) (by rw [← r58]; show 0 ≤ aI X 58 (aI X 134 (gI X 133 - 1).toNatClampNeg).toNatClampNeg; lia) rfl rfl rfl ?_ rfl rfl rfl rfl rfl rfl rfl rfl⟩⟩
                rw [← r58]
                rfl
          apply hB
          dsimp only [rgo, rfd, Bleave_, Nat.beq, rwp, rst, lv_args, rlk, rs1, rs2, rdl, rky, rct, rcs, rcd, rno, rsw, Value.category, List.filter, List.take, List.drop, List.reverse, List.reverseAux, List.cons_append, List.nil_append, Option.toList, Int.toNat, Int.reduceToNat, if_pos, if_neg, reduceIte, ↓reduceIte, Nat.reduceAdd, Nat.reduceEqDiff, Nat.reduceBEq, beq_self_eq_true, Bool.not_true, Bool.not_false, Bool.and_true, Bool.and_false, Bool.true_and, Bool.false_and, gI_sI, gI_sL, gI_sA, gI_sM, gL_sI, gL_sL, gL_sA, gL_sM, aI_sI, aI_sL, aI_sA, aI_sM, aL_sI, aL_sL, aL_sA, aL_sM, Bleave__0, Bleave__7, Bleave__25, Bleave__47, Bleave__58, Bleave__69, Bleave__75, Bleave__86, Bleave__96, Bleave__153, Bleave__166, Bleave__171, Bleave__179, Bleave__184, oi_1, oi_2, P_back]; try dsimp only
          refine ⟨rfl, fun h1 => ?_, fun h1 => ?_⟩
          · exact hW 166 [(0, .ref 1000), (1, .int how), (2, .int to), (3, .long v)] _ _ _ (by simp [rdl, rky]) (t166 X hX (by first | exact Or.inl (by lia) | exact Or.inr (by show ¬ aI X 135 (gI X 133 - 1).toNatClampNeg = gI X 129; lia)))
          · apply hB
            dsimp only [rgo, rfd, Bleave_, Nat.beq, rwp, rst, lv_args, rlk, rs1, rs2, rdl, rky, rct, rcs, rcd, rno, rsw, Value.category, List.filter, List.take, List.drop, List.reverse, List.reverseAux, List.cons_append, List.nil_append, Option.toList, Int.toNat, Int.reduceToNat, if_pos, if_neg, reduceIte, ↓reduceIte, Nat.reduceAdd, Nat.reduceEqDiff, Nat.reduceBEq, beq_self_eq_true, Bool.not_true, Bool.not_false, Bool.and_true, Bool.and_false, Bool.true_and, Bool.false_and, gI_sI, gI_sL, gI_sA, gI_sM, gL_sI, gL_sL, gL_sA, gL_sM, aI_sI, aI_sL, aI_sA, aI_sM, aL_sI, aL_sL, aL_sA, aL_sM, Bleave__0, Bleave__7, Bleave__25, Bleave__47, Bleave__58, Bleave__69, Bleave__75, Bleave__86, Bleave__96, Bleave__153, Bleave__166, Bleave__171, Bleave__179, Bleave__184, oi_1, oi_2, P_back]; try dsimp only
            refine ⟨rfl, rfl, rfl, (in_135 (by lia) (by lia)), rfl, fun h2 => ?_, fun h2 => ?_⟩
            · exact hW 166 [(0, .ref 1000), (1, .int how), (2, .int to), (3, .long v)] _ _ _ (by simp [rdl, rky]) (t166 X hX (by first | exact Or.inl (by lia) | exact Or.inr (by show ¬ aI X 135 (gI X 133 - 1).toNatClampNeg = gI X 129; lia)))
            · have hT := hX.top (by lia) (by show aI X 135 (gI X 133 - 1).toNatClampNeg = gI X 129; lia)
              have hbd := hT.bd hG
              have hk0 : 0 ≤ aI X 134 (gI X 133 - 1).toNatClampNeg := hbd.2.1
              have hk5 : aI X 134 (gI X 133 - 1).toNatClampNeg < 501 := (nlt hk0 (by decide)).mpr hbd.1
              have r51 : aI X 51 = aI σ 51 := hX.1.2.2.1 51 rfl
              have r55 : aI X 55 = aI σ 55 := hX.1.2.2.1 55 rfl
              apply hB
              dsimp only [rgo, rfd, Bleave_, Nat.beq, rwp, rst, lv_args, rlk, rs1, rs2, rdl, rky, rct, rcs, rcd, rno, rsw, Value.category, List.filter, List.take, List.drop, List.reverse, List.reverseAux, List.cons_append, List.nil_append, Option.toList, Int.toNat, Int.reduceToNat, if_pos, if_neg, reduceIte, ↓reduceIte, Nat.reduceAdd, Nat.reduceEqDiff, Nat.reduceBEq, beq_self_eq_true, Bool.not_true, Bool.not_false, Bool.and_true, Bool.and_false, Bool.true_and, Bool.false_and, gI_sI, gI_sL, gI_sA, gI_sM, gL_sI, gL_sL, gL_sA, gL_sM, aI_sI, aI_sL, aI_sA, aI_sM, aL_sI, aL_sL, aL_sA, aL_sM, Bleave__0, Bleave__7, Bleave__25, Bleave__47, Bleave__58, Bleave__69, Bleave__75, Bleave__86, Bleave__96, Bleave__153, Bleave__166, Bleave__171, Bleave__179, Bleave__184, oi_1, oi_2, P_back]; try dsimp only
              refine ⟨rfl, rfl, rfl, (in_134 (by lia) (by lia)), fun h3 => ?_, fun h3 => ?_⟩
              · refine hW 75 [(0, .ref 1000), (1, .int how), (2, .int to), (3, .long v), (5, .int (gI X 133 - 1)), (6, .int (aI X 134 (gI X 133 - 1).toNatClampNeg))] _ _ _ (by simp [rdl, rky]) (t75 hT hk0 hk5 (by lia) ?_)
                rw [← r51, ← r55]
                show ¬ (how = 1 ∧ aI X 51 (aI X 134 (gI X 133 - 1).toNatClampNeg).toNatClampNeg ≤ to ∧ to ≤ aI X 55 (aI X 134 (gI X 133 - 1).toNatClampNeg).toNatClampNeg)
                lia
              · apply hB
                dsimp only [rgo, rfd, Bleave_, Nat.beq, rwp, rst, lv_args, rlk, rs1, rs2, rdl, rky, rct, rcs, rcd, rno, rsw, Value.category, List.filter, List.take, List.drop, List.reverse, List.reverseAux, List.cons_append, List.nil_append, Option.toList, Int.toNat, Int.reduceToNat, if_pos, if_neg, reduceIte, ↓reduceIte, Nat.reduceAdd, Nat.reduceEqDiff, Nat.reduceBEq, beq_self_eq_true, Bool.not_true, Bool.not_false, Bool.and_true, Bool.and_false, Bool.true_and, Bool.false_and, gI_sI, gI_sL, gI_sA, gI_sM, gL_sI, gL_sL, gL_sA, gL_sM, aI_sI, aI_sL, aI_sA, aI_sM, aL_sI, aL_sL, aL_sA, aL_sM, Bleave__0, Bleave__7, Bleave__25, Bleave__47, Bleave__58, Bleave__69, Bleave__75, Bleave__86, Bleave__96, Bleave__153, Bleave__166, Bleave__171, Bleave__179, Bleave__184, oi_1, oi_2, P_back]; try dsimp only
                refine ⟨rfl, rfl, (in_51 (by lia) (by lia)), fun h4 => ?_, fun h4 => ?_⟩
                · refine hW 75 [(0, .ref 1000), (1, .int how), (2, .int to), (3, .long v), (5, .int (gI X 133 - 1)), (6, .int (aI X 134 (gI X 133 - 1).toNatClampNeg))] _ _ _ (by simp [rdl, rky]) (t75 hT hk0 hk5 (by lia) ?_)
                  rw [← r51, ← r55]
                  show ¬ (how = 1 ∧ aI X 51 (aI X 134 (gI X 133 - 1).toNatClampNeg).toNatClampNeg ≤ to ∧ to ≤ aI X 55 (aI X 134 (gI X 133 - 1).toNatClampNeg).toNatClampNeg)
                  lia
                · apply hB
                  dsimp only [rgo, rfd, Bleave_, Nat.beq, rwp, rst, lv_args, rlk, rs1, rs2, rdl, rky, rct, rcs, rcd, rno, rsw, Value.category, List.filter, List.take, List.drop, List.reverse, List.reverseAux, List.cons_append, List.nil_append, Option.toList, Int.toNat, Int.reduceToNat, if_pos, if_neg, reduceIte, ↓reduceIte, Nat.reduceAdd, Nat.reduceEqDiff, Nat.reduceBEq, beq_self_eq_true, Bool.not_true, Bool.not_false, Bool.and_true, Bool.and_false, Bool.true_and, Bool.false_and, gI_sI, gI_sL, gI_sA, gI_sM, gL_sI, gL_sL, gL_sA, gL_sM, aI_sI, aI_sL, aI_sA, aI_sM, aL_sI, aL_sL, aL_sA, aL_sM, Bleave__0, Bleave__7, Bleave__25, Bleave__47, Bleave__58, Bleave__69, Bleave__75, Bleave__86, Bleave__96, Bleave__153, Bleave__166, Bleave__171, Bleave__179, Bleave__184, oi_1, oi_2, P_back]; try dsimp only
                  refine ⟨rfl, rfl, (in_55 (by lia) (by lia)), fun h5 => ?_, fun h5 => ?_⟩
                  · refine hW 75 [(0, .ref 1000), (1, .int how), (2, .int to), (3, .long v), (5, .int (gI X 133 - 1)), (6, .int (aI X 134 (gI X 133 - 1).toNatClampNeg))] _ _ _ (by simp [rdl, rky]) (t75 hT hk0 hk5 (by lia) ?_)
                    rw [← r51, ← r55]
                    show ¬ (how = 1 ∧ aI X 51 (aI X 134 (gI X 133 - 1).toNatClampNeg).toNatClampNeg ≤ to ∧ to ≤ aI X 55 (aI X 134 (gI X 133 - 1).toNatClampNeg).toNatClampNeg)
                    lia
                  · apply hB
                    dsimp only [rgo, rfd, Bleave_, Nat.beq, rwp, rst, lv_args, rlk, rs1, rs2, rdl, rky, rct, rcs, rcd, rno, rsw, Value.category, List.filter, List.take, List.drop, List.reverse, List.reverseAux, List.cons_append, List.nil_append, Option.toList, Int.toNat, Int.reduceToNat, if_pos, if_neg, reduceIte, ↓reduceIte, Nat.reduceAdd, Nat.reduceEqDiff, Nat.reduceBEq, beq_self_eq_true, Bool.not_true, Bool.not_false, Bool.and_true, Bool.and_false, Bool.true_and, Bool.false_and, gI_sI, gI_sL, gI_sA, gI_sM, gL_sI, gL_sL, gL_sA, gL_sM, aI_sI, aI_sL, aI_sA, aI_sM, aL_sI, aL_sL, aL_sA, aL_sM, Bleave__0, Bleave__7, Bleave__25, Bleave__47, Bleave__58, Bleave__69, Bleave__75, Bleave__86, Bleave__96, Bleave__153, Bleave__166, Bleave__171, Bleave__179, Bleave__184, oi_1, oi_2, P_back]; try dsimp only
                    refine ⟨rfl, ?_⟩
                    refine ⟨rfl, hX.1.i rfl, Or.inr ⟨hX.2.1.1, hT.in_ (by lia) ?_ rfl⟩⟩
                    rw [← r51, ← r55]
                    show aI X 51 (aI X 134 (gI X 133 - 1).toNatClampNeg).toNatClampNeg ≤ to ∧ to ≤ aI X 55 (aI X 134 (gI X 133 - 1).toNatClampNeg).toNatClampNeg
                    exact ⟨by lia, by lia⟩
      exact hW 0 [(0, .ref 1000), (1, .int how), (2, .int to), (3, .long v)] _ _ _ (by simp [rdl, rky, lv_args, Value.category]) (loop _ σ rfl hL)
    next => exact hP.elim
